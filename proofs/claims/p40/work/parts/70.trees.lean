/-! the trees of the methods, and what they say of the machine -/
theorem tA_12 : tabA LT 12 0 27500 5731 660 7500 8932 = true := by decide +kernel
theorem tA_13 : tabA LT 13 0 1280 7898 1 1280 1280 = true := by decide +kernel
theorem tA_14 : tabA LT 14 0 5 7899 1 5 5 = true := by decide +kernel
theorem tA_15 : tabA LT 15 0 5 7900 1 5 5 = true := by decide +kernel
theorem tA_16 : tabA LT 16 0 20 7853 20 20 20 = true := by decide +kernel
theorem tA_18 : tabA LT 18 1 20 7825 1 20 20 = true := by decide +kernel
theorem tA_20 : tabA LT 20 0 256 7826 1 256 256 = true := by decide +kernel
theorem tA_21 : tabA LT 21 0 20 7827 20 20 20 = true := by decide +kernel
theorem tA_22 : tabA LT 22 0 64 7881 1 64 64 = true := by decide +kernel
theorem tA_23 : tabA LT 23 0 64 7873 1 64 64 = true := by decide +kernel
theorem tA_25 : tabA LT 25 0 64 7874 1 64 64 = true := by decide +kernel
theorem tA_27 : tabA LT 27 0 64 7875 1 64 64 = true := by decide +kernel
theorem tA_29 : tabA LT 29 0 256 7879 1 256 256 = true := by decide +kernel
theorem tA_30 : tabA LT 30 0 256 7847 1 256 256 = true := by decide +kernel
theorem tA_31 : tabA LT 31 0 256 7882 1 256 256 = true := by decide +kernel
theorem tA_32 : tabA LT 32 0 256 7848 1 256 256 = true := by decide +kernel
theorem tA_33 : tabA LT 33 0 256 7880 1 256 256 = true := by decide +kernel
theorem tA_34 : tabA LT 34 0 256 7876 1 256 256 = true := by decide +kernel
theorem tA_35 : tabA LT 35 0 256 7883 1 256 256 = true := by decide +kernel
theorem tA_36 : tabA LT 36 0 256 7849 1 256 256 = true := by decide +kernel
theorem tA_38 : tabA LT 38 0 640 7850 1 640 640 = true := by decide +kernel
theorem tA_39 : tabA LT 39 0 16 7851 2 16 16 = true := by decide +kernel
theorem tA_4 : tabA LT 4 0 16 7823 1 16 16 = true := by decide +kernel
theorem tA_41 : tabA LT 41 0 1240 1165 1141 1240 1240 = true := by decide +kernel
theorem tA_42 : tabA LT 42 0 1240 24 1141 1240 1240 = true := by decide +kernel
theorem tA_43 : tabA LT 43 0 1240 3449 1141 1240 1240 = true := by decide +kernel
theorem tA_44 : tabA LT 44 0 1240 4590 1141 1240 1240 = true := by decide +kernel
theorem tA_45 : tabA LT 45 0 1240 2306 1141 1240 1240 = true := by decide +kernel
theorem tA_5 : tabA LT 5 0 16 7886 2 16 16 = true := by decide +kernel
theorem tA_6 : tabA LT 6 0 16 7884 2 16 16 = true := by decide +kernel
theorem tA_7 : tabA LT 7 0 16 7824 1 16 16 = true := by decide +kernel
theorem tF_0_11_1 : tabF LT 0 11 1 = some (some (.inr 11)) := rfl
theorem tF_0_11_4 : tabF LT 0 11 4 = some (some (.inr 40)) := rfl
theorem tF_0_11_8 : tabF LT 0 11 8 = some (some (.inl 3447)) := rfl
theorem tF_11_9_0 : tabF LT 11 9 0 = some (some (.inr 1)) := rfl
theorem tF_11_9_1 : tabF LT 11 9 1 = some (some (.inr 12)) := rfl
theorem tF_11_9_10 : tabF LT 11 9 10 = some (some (.inl 7907)) := rfl
theorem tF_11_9_2 : tabF LT 11 9 2 = some (some (.inl 7903)) := rfl
theorem tF_11_9_3 : tabF LT 11 9 3 = some (some (.inr 13)) := rfl
theorem tF_11_9_4 : tabF LT 11 9 4 = some (some (.inl 7904)) := rfl
theorem tF_11_9_5 : tabF LT 11 9 5 = some (some (.inr 14)) := rfl
theorem tF_11_9_6 : tabF LT 11 9 6 = some (some (.inr 15)) := rfl
theorem tF_11_9_7 : tabF LT 11 9 7 = some (some (.inr 16)) := rfl
theorem tF_11_9_8 : tabF LT 11 9 8 = some (some (.inl 7905)) := rfl
theorem tF_17_3_0 : tabF LT 17 3 0 = some (some (.inr 11)) := rfl
theorem tF_17_3_1 : tabF LT 17 3 1 = some (some (.inr 1)) := rfl
theorem tF_17_3_2 : tabF LT 17 3 2 = some (some (.inl 7877)) := rfl
theorem tF_17_3_4 : tabF LT 17 3 4 = some (some (.inr 18)) := rfl
theorem tF_19_4_0 : tabF LT 19 4 0 = some (some (.inr 11)) := rfl
theorem tF_19_4_1 : tabF LT 19 4 1 = some (some (.inr 1)) := rfl
theorem tF_19_4_11 : tabF LT 19 4 11 = some (some (.inr 27)) := rfl
theorem tF_19_4_12 : tabF LT 19 4 12 = some (some (.inl 7889)) := rfl
theorem tF_19_4_13 : tabF LT 19 4 13 = some (some (.inl 7890)) := rfl
theorem tF_19_4_14 : tabF LT 19 4 14 = some (some (.inl 7891)) := rfl
theorem tF_19_4_15 : tabF LT 19 4 15 = some (some (.inl 7892)) := rfl
theorem tF_19_4_2 : tabF LT 19 4 2 = some (some (.inr 28)) := rfl
theorem tF_19_4_3 : tabF LT 19 4 3 = some (some (.inr 20)) := rfl
theorem tF_19_4_4 : tabF LT 19 4 4 = some (some (.inr 21)) := rfl
theorem tF_19_4_5 : tabF LT 19 4 5 = some (some (.inl 7888)) := rfl
theorem tF_19_4_6 : tabF LT 19 4 6 = some (some (.inr 22)) := rfl
theorem tF_19_4_7 : tabF LT 19 4 7 = some (some (.inr 23)) := rfl
theorem tF_19_4_9 : tabF LT 19 4 9 = some (some (.inr 25)) := rfl
theorem tF_1_8_1 : tabF LT 1 8 1 = some (some (.inl 7897)) := rfl
theorem tF_1_8_4 : tabF LT 1 8 4 = some (some (.inr 4)) := rfl
theorem tF_1_8_5 : tabF LT 1 8 5 = some (some (.inr 5)) := rfl
theorem tF_1_8_6 : tabF LT 1 8 6 = some (some (.inr 6)) := rfl
theorem tF_1_8_7 : tabF LT 1 8 7 = some (some (.inr 7)) := rfl
theorem tF_28_5_0 : tabF LT 28 5 0 = some (some (.inr 11)) := rfl
theorem tF_28_5_1 : tabF LT 28 5 1 = some (some (.inr 1)) := rfl
theorem tF_28_5_10 : tabF LT 28 5 10 = some (some (.inr 35)) := rfl
theorem tF_28_5_11 : tabF LT 28 5 11 = some (some (.inr 36)) := rfl
theorem tF_28_5_13 : tabF LT 28 5 13 = some (some (.inr 38)) := rfl
theorem tF_28_5_14 : tabF LT 28 5 14 = some (some (.inr 39)) := rfl
theorem tF_28_5_15 : tabF LT 28 5 15 = some (some (.inl 7895)) := rfl
theorem tF_28_5_2 : tabF LT 28 5 2 = some (some (.inl 7893)) := rfl
theorem tF_28_5_3 : tabF LT 28 5 3 = some (some (.inr 29)) := rfl
theorem tF_28_5_4 : tabF LT 28 5 4 = some (some (.inr 30)) := rfl
theorem tF_28_5_5 : tabF LT 28 5 5 = some (some (.inr 31)) := rfl
theorem tF_28_5_6 : tabF LT 28 5 6 = some (some (.inr 32)) := rfl
theorem tF_28_5_7 : tabF LT 28 5 7 = some (some (.inr 33)) := rfl
theorem tF_28_5_8 : tabF LT 28 5 8 = some (some (.inr 34)) := rfl
theorem tF_28_5_9 : tabF LT 28 5 9 = some (some (.inl 7894)) := rfl
theorem tF_40_7_0 : tabF LT 40 7 0 = some (some (.inr 11)) := rfl
theorem tF_40_7_1 : tabF LT 40 7 1 = some (some (.inr 17)) := rfl
theorem tF_40_7_2 : tabF LT 40 7 2 = some (some (.inr 19)) := rfl
theorem tF_40_7_3 : tabF LT 40 7 3 = some (some (.inl 7901)) := rfl
theorem tF_40_7_4 : tabF LT 40 7 4 = some (some (.inl 7902)) := rfl
theorem tF_40_7_5 : tabF LT 40 7 5 = some (some (.inr 41)) := rfl
theorem tF_40_7_6 : tabF LT 40 7 6 = some (some (.inr 42)) := rfl
theorem tF_40_7_7 : tabF LT 40 7 7 = some (some (.inr 43)) := rfl
theorem tF_40_7_8 : tabF LT 40 7 8 = some (some (.inr 44)) := rfl
theorem tF_40_7_9 : tabF LT 40 7 9 = some (some (.inr 45)) := rfl
noncomputable def m_J7_fill_53178_16 (a1 : Nat) (M0 : Nat) : RN :=
  lp (fun _ _ _ => none) (fun (j5 : (Nat → Nat →  Nat → RN)) => fun (x1 : Nat) (x2 : Nat) (M3 : Nat) => bK (nGe x1 x2) (some (1, M3)) (sK M3 7853 20 x1 a1 (fun M4 => fK (oAdd x1 1) (fun v5 => j5 v5 x2 M4)))) (fun (j5 : (Nat → Nat →  Nat → RN)) => j5 0 20 M0)
set_option maxRecDepth 100000 in
theorem snd_J7_fill_53178_16 {l : Launch} {g : GV} {D : va_G} {sl q : Nat} {a1 M0 : Nat} {r : Nat × Nat} (h : m_J7_fill_53178_16 a1 M0 = some r) : SN l g D sl 9 0 q q 9 0 [(0, .inr (.inr (.inl 16))), (1, .inl a1)] [] M0 (PR r) := by
  unfold m_J7_fill_53178_16 at h
  refine b_ic (pc' := 1) (0) tb_J7_fill_53178 r_J7_fill_53178_0 rfl rfl ?_
  refine b_stn (pc' := 2) [(2, .inl 0), (0, .inr (.inr (.inl 16))), (1, .inl a1)] tb_J7_fill_53178 r_J7_fill_53178_1 rfl rfl rfl rfl ?_
  refine b_aln (pc' := 3) (a := .inr (.inr (.inl 16))) tb_J7_fill_53178 r_J7_fill_53178_2 rfl rfl rfl ?_
  refine b_len (pc' := 4) tb_J7_fill_53178 r_J7_fill_53178_3 tA_16 rfl ?_
  refine b_stn (pc' := 5) [(3, .inl 20), (2, .inl 0), (0, .inr (.inr (.inl 16))), (1, .inl a1)] tb_J7_fill_53178 r_J7_fill_53178_4 rfl rfl rfl rfl ?_
  refine lp_in (R := fun (j5 : (Nat → Nat → Nat → RN)) => ∀ (x1 x2 M3 : Nat), j5 x1 x2 M3 = some r → SN l g D sl 9 0 q q 9 5 [(0, .inr (.inr (.inl 16))), (1, .inl a1), (2, .inl x1), (3, .inl x2)] [] M3 (PR r)) h (fun _ _ _ h => by cases h) (fun j5 hj5 => ?_) (fun j5 hj5 h => ?_)
  · intro x1 x2 M3 h
    refine b_iln (pc' := 6) (a := .inl x1) tb_J7_fill_53178 r_J7_fill_53178_5 rfl rfl rfl ?_
    refine b_iln (pc' := 7) (a := .inl x2) tb_J7_fill_53178 r_J7_fill_53178_6 rfl rfl rfl ?_
    rcases bK_in h with ⟨c1, h⟩ | ⟨c1, h⟩
    · refine b_icT (t := 20) tb_J7_fill_53178 r_J7_fill_53178_7 rfl ((nGe_c _ _).symm.trans c1) ?_
      exact b_vo tb_J7_fill_53178 r_J7_fill_53178_20 (sj h).symm
    · refine b_icF (t := 20) (pc' := 10) tb_J7_fill_53178 r_J7_fill_53178_7 rfl ((nGe_c _ _).symm.trans c1) rfl ?_
      refine b_aln (pc' := 11) (a := .inr (.inr (.inl 16))) tb_J7_fill_53178 r_J7_fill_53178_10 rfl rfl rfl ?_
      refine b_iln (pc' := 12) (a := .inl x1) tb_J7_fill_53178 r_J7_fill_53178_11 rfl rfl rfl ?_
      refine b_iln (pc' := 13) (a := .inl a1) tb_J7_fill_53178 r_J7_fill_53178_12 rfl rfl rfl ?_
      obtain ⟨M4, dM4, cM4, h⟩ := sK_in h
      refine b_is (pc' := 14) tb_J7_fill_53178 r_J7_fill_53178_13 tA_16 dM4 cM4 rfl ?_
      refine b_inc (pc' := 17) (v := x1) (n := 1) [(2, .inl (oAdd x1 1)), (0, .inr (.inr (.inl 16))), (1, .inl a1), (3, .inl x2)] tb_J7_fill_53178 r_J7_fill_53178_14 rfl rfl rfl rfl rfl ?_
      obtain ⟨v5, ev5, h⟩ := fK_v h
      rw [ev5]
      refine b_goto (pc' := 5) tb_J7_fill_53178 r_J7_fill_53178_17 rfl ?_
      refine b_sub9 [(0, .inr (.inr (.inl 16))), (1, .inl a1), (2, .inl v5), (3, .inl x2)] ⟨rfl, rfl, rfl, rfl, trivial⟩ ?_
      exact hj5 _ _ _ h
  refine b_sub9 [(0, .inr (.inr (.inl 16))), (1, .inl a1), (2, .inl 0), (3, .inl 20)] ⟨rfl, rfl, rfl, rfl, trivial⟩ ?_
  exact hj5 _ _ _ h
noncomputable def m_X8_giveNothing (M0 : Nat) : RN :=
  cV (m_J7_fill_53178_16 4294967295 M0) (fun M1 => some (1, M1))
set_option maxRecDepth 100000 in
theorem snd_X8_giveNothing {l : Launch} {g : GV} {D : va_G} {sl q : Nat} {M0 : Nat} {r : Nat × Nat} (h : m_X8_giveNothing M0 = some r) : SN l g D sl 10 0 q q 56 0 [(0, .inr (.inr (.inl 11)))] [] M0 (PR r) := by
  unfold m_X8_giveNothing at h
  refine b_aln (pc' := 1) (a := .inr (.inr (.inl 11))) tb_X8_giveNothing r_X8_giveNothing_0 rfl rfl rfl ?_
  refine b_gr (pc' := 4) tb_X8_giveNothing r_X8_giveNothing_1 tF_11_9_7 rfl ?_
  refine b_ic (pc' := 5) (4294967295) tb_X8_giveNothing r_X8_giveNothing_4 rfl rfl ?_
  obtain ⟨M1, oM1, h⟩ := cV_in h
  refine b_sV (pc' := 8) tb_X8_giveNothing r_X8_giveNothing_5 tb_J7_fill_53178 mo_J7_fill_53178 (by decide) rfl rfl oM1 (fun r hr => snd_J7_fill_53178_16 hr) (by decide) rfl rfl rfl ?_
  exact b_vo tb_X8_giveNothing r_X8_giveNothing_8 (sj h).symm
noncomputable def m_X8_startAnew (M0 : Nat) : RN :=
  pK M0 7903 7500 (fun M1 => pK M1 7904 0 (fun M2 => pK M2 7905 4294967295 (fun M3 => pBK M3 7907 0 (fun M4 => cV (m_X8_giveNothing M4) (fun M5 => some (1, M5))))))
set_option maxRecDepth 100000 in
theorem snd_X8_startAnew {l : Launch} {g : GV} {D : va_G} {sl q : Nat} {M0 : Nat} {r : Nat × Nat} (h : m_X8_startAnew M0 = some r) : SN l g D sl 11 0 q q 63 0 [(0, .inr (.inr (.inl 11)))] [] M0 (PR r) := by
  unfold m_X8_startAnew at h
  refine b_aln (pc' := 1) (a := .inr (.inr (.inl 11))) tb_X8_startAnew r_X8_startAnew_0 rfl rfl rfl ?_
  refine b_si (pc' := 4) (7500) tb_X8_startAnew r_X8_startAnew_1 rfl rfl rfl ?_
  obtain ⟨M1, cM1, h⟩ := pK_in h
  refine b_pi (pc' := 7) tb_X8_startAnew r_X8_startAnew_4 rfl tF_11_9_2 cM1 rfl ?_
  refine b_aln (pc' := 8) (a := .inr (.inr (.inl 11))) tb_X8_startAnew r_X8_startAnew_7 rfl rfl rfl ?_
  refine b_ic (pc' := 9) (0) tb_X8_startAnew r_X8_startAnew_8 rfl rfl ?_
  obtain ⟨M2, cM2, h⟩ := pK_in h
  refine b_pi (pc' := 12) tb_X8_startAnew r_X8_startAnew_9 rfl tF_11_9_4 cM2 rfl ?_
  refine b_aln (pc' := 13) (a := .inr (.inr (.inl 11))) tb_X8_startAnew r_X8_startAnew_12 rfl rfl rfl ?_
  refine b_ic (pc' := 14) (4294967295) tb_X8_startAnew r_X8_startAnew_13 rfl rfl ?_
  obtain ⟨M3, cM3, h⟩ := pK_in h
  refine b_pi (pc' := 17) tb_X8_startAnew r_X8_startAnew_14 rfl tF_11_9_8 cM3 rfl ?_
  refine b_aln (pc' := 18) (a := .inr (.inr (.inl 11))) tb_X8_startAnew r_X8_startAnew_17 rfl rfl rfl ?_
  refine b_ic (pc' := 19) (0) tb_X8_startAnew r_X8_startAnew_18 rfl rfl ?_
  obtain ⟨M4, dM4, cM4, h⟩ := pBK_in h
  refine b_pb (pc' := 22) tb_X8_startAnew r_X8_startAnew_19 rfl tF_11_9_10 dM4 cM4 rfl ?_
  refine b_aln (pc' := 23) (a := .inr (.inr (.inl 11))) tb_X8_startAnew r_X8_startAnew_22 rfl rfl rfl ?_
  obtain ⟨M5, oM5, h⟩ := cV_in h
  refine b_vV (pc' := 26) tb_X8_startAnew r_X8_startAnew_23 tb_X8_giveNothing mo_X8_giveNothing (by decide) rfl rfl oM5 (fun r hr => snd_X8_giveNothing hr) (by decide) rfl rfl rfl ?_
  exact b_vo tb_X8_startAnew r_X8_startAnew_26 (sj h).symm
noncomputable def m_X10_stackAt (a0 : Nat) (M0 : Nat) : RN :=
  some (Nat.add (oAdd 20 (oMul a0 20)) 2, M0)
set_option maxRecDepth 100000 in
theorem snd_X10_stackAt {l : Launch} {g : GV} {D : va_G} {sl q : Nat} {a0 M0 : Nat} {r : Nat × Nat} (h : m_X10_stackAt a0 M0 = some r) : SN l g D sl 9 0 q q 68 0 [(0, .inl a0)] [] M0 (PR r) := by
  unfold m_X10_stackAt at h
  refine b_bi (pc' := 2) (20) tb_X10_stackAt r_X10_stackAt_0 rfl rfl rfl ?_
  refine b_iln (pc' := 3) (a := .inl a0) tb_X10_stackAt r_X10_stackAt_2 rfl rfl rfl ?_
  refine b_bi (pc' := 5) (20) tb_X10_stackAt r_X10_stackAt_3 rfl rfl rfl ?_
  refine b_mul (pc' := 6) tb_X10_stackAt r_X10_stackAt_5 rfl ?_
  refine b_add (pc' := 7) tb_X10_stackAt r_X10_stackAt_6 rfl ?_
  exact b_ri tb_X10_stackAt r_X10_stackAt_7 rfl (sj h).symm
noncomputable def m_X10_topAt (M0 : Nat) : RN :=
  rK M0 3447 (fun v1 => fK (oSub v1 1) (fun v2 => cI (m_X10_stackAt v2 M0) (fun v4 M3 => some (Nat.add v4 2, M3))))
set_option maxRecDepth 100000 in
theorem snd_X10_topAt {l : Launch} {g : GV} {D : va_G} {sl q : Nat} {M0 : Nat} {r : Nat × Nat} (h : m_X10_topAt M0 = some r) : SN l g D sl 10 0 q q 108 0 [(0, .inr (.inr (.inl 0)))] [] M0 (PR r) := by
  unfold m_X10_topAt at h
  refine b_aln (pc' := 1) (a := .inr (.inr (.inl 0))) tb_X10_topAt r_X10_topAt_0 rfl rfl rfl ?_
  obtain ⟨v1, cv1, h⟩ := rK_in h
  refine b_gi (pc' := 4) tb_X10_topAt r_X10_topAt_1 tF_0_11_8 cv1 rfl ?_
  refine b_ic (pc' := 5) (1) tb_X10_topAt r_X10_topAt_4 rfl rfl ?_
  refine b_sub (pc' := 6) tb_X10_topAt r_X10_topAt_5 rfl ?_
  obtain ⟨v2, ev2, h⟩ := fK_v h
  rw [ev2]
  obtain ⟨v4, M3, ov4, h⟩ := cI_in h
  refine b_sI (pc' := 9) tb_X10_topAt r_X10_topAt_6 tb_X10_stackAt mo_X10_stackAt (by decide) rfl rfl ov4 (fun r hr => snd_X10_stackAt hr) (by decide) rfl rfl rfl ?_
  exact b_ri tb_X10_topAt r_X10_topAt_9 rfl (sj h).symm
noncomputable def m_X6_look (a1 a2 : Nat) (M0 : Nat) : RN :=
  lK2 M0 5731 660 7500 8932 a2 (fun v1 => sK M0 1165 1141 a1 a2 (fun M2 => sK M2 3449 1141 a1 (oAdd a2 1) (fun M3 => bK (nGe v1 32) (dvK Nat.mod v1 8 (fun v8 => sK M3 4590 1141 a1 v8 (fun M9 => rK M9 7904 (fun v10 => sK M9 2306 1141 a1 v10 (fun M11 => some (1, M11)))))) none)))
set_option maxRecDepth 100000 in
theorem snd_X6_look {l : Launch} {g : GV} {D : va_G} {sl q : Nat} {a1 a2 M0 : Nat} {r : Nat × Nat} (h : m_X6_look a1 a2 M0 = some r) : SN l g D sl 9 0 q q 7 0 [(0, .inr (.inr (.inl 40))), (1, .inl a1), (2, .inl a2)] [] M0 (PR r) := by
  unfold m_X6_look at h
  refine b_aln (pc' := 1) (a := .inr (.inr (.inl 40))) tb_X6_look r_X6_look_0 rfl rfl rfl ?_
  refine b_gr (pc' := 4) tb_X6_look r_X6_look_1 tF_40_7_0 rfl ?_
  refine b_gr (pc' := 7) tb_X6_look r_X6_look_4 tF_11_9_1 rfl ?_
  refine b_iln (pc' := 8) (a := .inl a2) tb_X6_look r_X6_look_7 rfl rfl rfl ?_
  obtain ⟨v1, _, dv1, cv1, h⟩ := lK2_in h
  refine b_ia2 (pc' := 9) tb_X6_look r_X6_look_8 tA_12 dv1 cv1 rfl ?_
  refine b_stn (pc' := 10) [(3, .inl v1), (0, .inr (.inr (.inl 40))), (1, .inl a1), (2, .inl a2)] tb_X6_look r_X6_look_9 rfl rfl rfl rfl ?_
  refine b_aln (pc' := 11) (a := .inr (.inr (.inl 40))) tb_X6_look r_X6_look_10 rfl rfl rfl ?_
  refine b_gr (pc' := 14) tb_X6_look r_X6_look_11 tF_40_7_5 rfl ?_
  refine b_iln (pc' := 15) (a := .inl a1) tb_X6_look r_X6_look_14 rfl rfl rfl ?_
  refine b_iln (pc' := 16) (a := .inl a2) tb_X6_look r_X6_look_15 rfl rfl rfl ?_
  obtain ⟨M2, dM2, cM2, h⟩ := sK_in h
  refine b_is (pc' := 17) tb_X6_look r_X6_look_16 tA_41 dM2 cM2 rfl ?_
  refine b_aln (pc' := 18) (a := .inr (.inr (.inl 40))) tb_X6_look r_X6_look_17 rfl rfl rfl ?_
  refine b_gr (pc' := 21) tb_X6_look r_X6_look_18 tF_40_7_7 rfl ?_
  refine b_iln (pc' := 22) (a := .inl a1) tb_X6_look r_X6_look_21 rfl rfl rfl ?_
  refine b_iln (pc' := 23) (a := .inl a2) tb_X6_look r_X6_look_22 rfl rfl rfl ?_
  refine b_ic (pc' := 24) (1) tb_X6_look r_X6_look_23 rfl rfl ?_
  refine b_add (pc' := 25) tb_X6_look r_X6_look_24 rfl ?_
  obtain ⟨M3, dM3, cM3, h⟩ := sK_in h
  refine b_is (pc' := 26) tb_X6_look r_X6_look_25 tA_43 dM3 cM3 rfl ?_
  refine b_aln (pc' := 27) (a := .inr (.inr (.inl 40))) tb_X6_look r_X6_look_26 rfl rfl rfl ?_
  refine b_gr (pc' := 30) tb_X6_look r_X6_look_27 tF_40_7_8 rfl ?_
  refine b_iln (pc' := 31) (a := .inl a1) tb_X6_look r_X6_look_30 rfl rfl rfl ?_
  refine b_iln (pc' := 32) (a := .inl v1) tb_X6_look r_X6_look_31 rfl rfl rfl ?_
  refine b_bi (pc' := 34) (32) tb_X6_look r_X6_look_32 rfl rfl rfl ?_
  obtain ⟨c1, h⟩ := bK_t h
  refine b_icT (t := 41) tb_X6_look r_X6_look_34 rfl ((nGe_c _ _).symm.trans c1) ?_
  refine b_iln (pc' := 42) (a := .inl v1) tb_X6_look r_X6_look_41 rfl rfl rfl ?_
  refine b_bi (pc' := 44) (8) tb_X6_look r_X6_look_42 rfl rfl rfl ?_
  obtain ⟨v8, c1, c2, c3, ev8, h⟩ := dvK_in h
  refine b_rem (pc' := 45) tb_X6_look r_X6_look_44 c1 c2 c3 ev8 rfl ?_
  obtain ⟨M9, dM9, cM9, h⟩ := sK_in h
  refine b_is (pc' := 46) tb_X6_look r_X6_look_45 tA_44 dM9 cM9 rfl ?_
  refine b_aln (pc' := 47) (a := .inr (.inr (.inl 40))) tb_X6_look r_X6_look_46 rfl rfl rfl ?_
  refine b_gr (pc' := 50) tb_X6_look r_X6_look_47 tF_40_7_9 rfl ?_
  refine b_iln (pc' := 51) (a := .inl a1) tb_X6_look r_X6_look_50 rfl rfl rfl ?_
  refine b_aln (pc' := 52) (a := .inr (.inr (.inl 40))) tb_X6_look r_X6_look_51 rfl rfl rfl ?_
  refine b_gr (pc' := 55) tb_X6_look r_X6_look_52 tF_40_7_0 rfl ?_
  obtain ⟨v10, cv10, h⟩ := rK_in h
  refine b_gi (pc' := 58) tb_X6_look r_X6_look_55 tF_11_9_4 cv10 rfl ?_
  obtain ⟨M11, dM11, cM11, h⟩ := sK_in h
  refine b_is (pc' := 59) tb_X6_look r_X6_look_58 tA_45 dM11 cM11 rfl ?_
  exact b_vo tb_X6_look r_X6_look_59 (sj h).symm
noncomputable def m_X6_begin (a1 : Nat) (M0 : Nat) : RN :=
  rK M0 7902 (fun v1 => bK (nLt v1 1240) (rK M0 7902 (fun v10 => rK M0 7903 (fun v11 => sK M0 24 1141 v10 v11 (fun M12 => rK M12 7902 (fun v13 => pK M12 7902 (oAdd v13 1) (fun M14 => rK M14 7902 (fun v15 => fK (oSub v15 1) (fun v16 => cV (m_X6_look v16 a1 M14) (fun M17 => some (Nat.add 4294967295 2, M17)))))))))) none)
set_option maxRecDepth 100000 in
theorem snd_X6_begin {l : Launch} {g : GV} {D : va_G} {sl q : Nat} {a1 M0 : Nat} {r : Nat × Nat} (h : m_X6_begin a1 M0 = some r) : SN l g D sl 10 0 q q 8 0 [(0, .inr (.inr (.inl 40))), (1, .inl a1)] [] M0 (PR r) := by
  unfold m_X6_begin at h
  refine b_aln (pc' := 1) (a := .inr (.inr (.inl 40))) tb_X6_begin r_X6_begin_0 rfl rfl rfl ?_
  obtain ⟨v1, cv1, h⟩ := rK_in h
  refine b_gi (pc' := 4) tb_X6_begin r_X6_begin_1 tF_40_7_4 cv1 rfl ?_
  refine b_si (pc' := 7) (1240) tb_X6_begin r_X6_begin_4 rfl rfl rfl ?_
  obtain ⟨c1, h⟩ := bK_t h
  refine b_icT (t := 13) tb_X6_begin r_X6_begin_7 rfl ((nLt_c _ _).symm.trans c1) ?_
  refine b_aln (pc' := 14) (a := .inr (.inr (.inl 40))) tb_X6_begin r_X6_begin_13 rfl rfl rfl ?_
  refine b_gr (pc' := 17) tb_X6_begin r_X6_begin_14 tF_40_7_6 rfl ?_
  refine b_aln (pc' := 18) (a := .inr (.inr (.inl 40))) tb_X6_begin r_X6_begin_17 rfl rfl rfl ?_
  obtain ⟨v10, cv10, h⟩ := rK_in h
  refine b_gi (pc' := 21) tb_X6_begin r_X6_begin_18 tF_40_7_4 cv10 rfl ?_
  refine b_aln (pc' := 22) (a := .inr (.inr (.inl 40))) tb_X6_begin r_X6_begin_21 rfl rfl rfl ?_
  refine b_gr (pc' := 25) tb_X6_begin r_X6_begin_22 tF_40_7_0 rfl ?_
  obtain ⟨v11, cv11, h⟩ := rK_in h
  refine b_gi (pc' := 28) tb_X6_begin r_X6_begin_25 tF_11_9_2 cv11 rfl ?_
  obtain ⟨M12, dM12, cM12, h⟩ := sK_in h
  refine b_is (pc' := 29) tb_X6_begin r_X6_begin_28 tA_42 dM12 cM12 rfl ?_
  refine b_aln (pc' := 30) (a := .inr (.inr (.inl 40))) tb_X6_begin r_X6_begin_29 rfl rfl rfl ?_
  refine b_dup (pc' := 31) tb_X6_begin r_X6_begin_30 rfl rfl ?_
  obtain ⟨v13, cv13, h⟩ := rK_in h
  refine b_gi (pc' := 34) tb_X6_begin r_X6_begin_31 tF_40_7_4 cv13 rfl ?_
  refine b_ic (pc' := 35) (1) tb_X6_begin r_X6_begin_34 rfl rfl ?_
  refine b_add (pc' := 36) tb_X6_begin r_X6_begin_35 rfl ?_
  obtain ⟨M14, cM14, h⟩ := pK_in h
  refine b_pi (pc' := 39) tb_X6_begin r_X6_begin_36 rfl tF_40_7_4 cM14 rfl ?_
  refine b_aln (pc' := 40) (a := .inr (.inr (.inl 40))) tb_X6_begin r_X6_begin_39 rfl rfl rfl ?_
  refine b_aln (pc' := 41) (a := .inr (.inr (.inl 40))) tb_X6_begin r_X6_begin_40 rfl rfl rfl ?_
  obtain ⟨v15, cv15, h⟩ := rK_in h
  refine b_gi (pc' := 44) tb_X6_begin r_X6_begin_41 tF_40_7_4 cv15 rfl ?_
  refine b_ic (pc' := 45) (1) tb_X6_begin r_X6_begin_44 rfl rfl ?_
  refine b_sub (pc' := 46) tb_X6_begin r_X6_begin_45 rfl ?_
  refine b_iln (pc' := 47) (a := .inl a1) tb_X6_begin r_X6_begin_46 rfl rfl rfl ?_
  obtain ⟨v16, ev16, h⟩ := fK_v h
  rw [ev16]
  obtain ⟨M17, oM17, h⟩ := cV_in h
  refine b_vV (pc' := 50) tb_X6_begin r_X6_begin_47 tb_X6_look mo_X6_look (by decide) rfl rfl oM17 (fun r hr => snd_X6_look hr) (by decide) rfl rfl rfl ?_
  refine b_ic (pc' := 51) (4294967295) tb_X6_begin r_X6_begin_50 rfl rfl ?_
  exact b_ri tb_X6_begin r_X6_begin_51 rfl (sj h).symm
noncomputable def m_X10_operatorIn (a0 : Nat) (M0 : Nat) : RN :=
  dvK Nat.div a0 8 (fun v1 => some (Nat.add (oSub v1 4) 2, M0))
set_option maxRecDepth 100000 in
theorem snd_X10_operatorIn {l : Launch} {g : GV} {D : va_G} {sl q : Nat} {a0 M0 : Nat} {r : Nat × Nat} (h : m_X10_operatorIn a0 M0 = some r) : SN l g D sl 9 0 q q 16 0 [(0, .inl a0)] [] M0 (PR r) := by
  unfold m_X10_operatorIn at h
  refine b_iln (pc' := 1) (a := .inl a0) tb_X10_operatorIn r_X10_operatorIn_0 rfl rfl rfl ?_
  refine b_bi (pc' := 3) (8) tb_X10_operatorIn r_X10_operatorIn_1 rfl rfl rfl ?_
  obtain ⟨v1, c1, c2, c3, ev1, h⟩ := dvK_in h
  refine b_div (pc' := 4) tb_X10_operatorIn r_X10_operatorIn_3 c1 c2 c3 ev1 rfl ?_
  refine b_ic (pc' := 5) (4) tb_X10_operatorIn r_X10_operatorIn_4 rfl rfl ?_
  refine b_sub (pc' := 6) tb_X10_operatorIn r_X10_operatorIn_5 rfl ?_
  exact b_ri tb_X10_operatorIn r_X10_operatorIn_6 rfl (sj h).symm
noncomputable def m_X8_write (a1 a2 : Nat) (M0 : Nat) : RN :=
  rK M0 7903 (fun v1 => bK (nLt v1 27460) (sK2 M0 5731 660 7500 8932 v1 a1 (fun M21 => fK (oAdd v1 1) (fun v22 => lp (fun _ _ _ => none) (fun (j29 : (Nat → Nat →  Nat → RN)) => fun (x23 : Nat) (x24 : Nat) (M25 : Nat) => bK (nGe x24 a2) (pK M25 7903 x23 (fun M26 => some (Nat.add v1 2, M26))) (lK M25 7900 1 x24 (fun v27 => bK (nLe (oAdd (oSub x23 v1) v27) 20) (lK M25 7899 1 x24 (fun v34 => lK M25 7900 1 x24 (fun v35 => cpK M25 5731 660 7500 8932 v34 x23 v35 (fun M36 => lK M36 7900 1 x24 (fun v37 => fK (oAdd x23 v37) (fun v38 => fK (oAdd x24 1) (fun v39 => j29 v38 v39 M36))))))) none))) (fun (j29 : (Nat → Nat →  Nat → RN)) => j29 v22 0 M21)))) none)
set_option maxRecDepth 100000 in
theorem snd_X8_write {l : Launch} {g : GV} {D : va_G} {sl q : Nat} {a1 a2 M0 : Nat} {r : Nat × Nat} (h : m_X8_write a1 a2 M0 = some r) : SN l g D sl 9 0 q q 3 0 [(0, .inr (.inr (.inl 11))), (1, .inl a1), (2, .inl a2)] [] M0 (PR r) := by
  unfold m_X8_write at h
  refine b_aln (pc' := 1) (a := .inr (.inr (.inl 11))) tb_X8_write r_X8_write_0 rfl rfl rfl ?_
  obtain ⟨v1, cv1, h⟩ := rK_in h
  refine b_gi (pc' := 4) tb_X8_write r_X8_write_1 tF_11_9_2 cv1 rfl ?_
  refine b_stn (pc' := 5) [(3, .inl v1), (0, .inr (.inr (.inl 11))), (1, .inl a1), (2, .inl a2)] tb_X8_write r_X8_write_4 rfl rfl rfl rfl ?_
  refine b_iln (pc' := 6) (a := .inl v1) tb_X8_write r_X8_write_5 rfl rfl rfl ?_
  refine b_si (pc' := 9) (27460) tb_X8_write r_X8_write_6 rfl rfl rfl ?_
  obtain ⟨c1, h⟩ := bK_t h
  refine b_icT (t := 14) tb_X8_write r_X8_write_9 rfl ((nLt_c _ _).symm.trans c1) ?_
  refine b_aln (pc' := 15) (a := .inr (.inr (.inl 11))) tb_X8_write r_X8_write_14 rfl rfl rfl ?_
  refine b_gr (pc' := 18) tb_X8_write r_X8_write_15 tF_11_9_1 rfl ?_
  refine b_iln (pc' := 19) (a := .inl v1) tb_X8_write r_X8_write_18 rfl rfl rfl ?_
  refine b_iln (pc' := 20) (a := .inl a1) tb_X8_write r_X8_write_19 rfl rfl rfl ?_
  obtain ⟨M21, _, dM21, cM21, h⟩ := sK2_in h
  refine b_is2 (pc' := 21) tb_X8_write r_X8_write_20 tA_12 dM21 cM21 rfl ?_
  refine b_iln (pc' := 22) (a := .inl v1) tb_X8_write r_X8_write_21 rfl rfl rfl ?_
  refine b_ic (pc' := 23) (1) tb_X8_write r_X8_write_22 rfl rfl ?_
  refine b_add (pc' := 24) tb_X8_write r_X8_write_23 rfl ?_
  obtain ⟨v22, ev22, h⟩ := fK_v h
  rw [ev22]
  refine b_st (pc' := 26) [(4, .inl v22), (3, .inl v1), (0, .inr (.inr (.inl 11))), (1, .inl a1), (2, .inl a2)] tb_X8_write r_X8_write_24 rfl rfl rfl rfl ?_
  refine b_ic (pc' := 27) (0) tb_X8_write r_X8_write_26 rfl rfl ?_
  refine b_st (pc' := 29) [(5, .inl 0), (4, .inl v22), (3, .inl v1), (0, .inr (.inr (.inl 11))), (1, .inl a1), (2, .inl a2)] tb_X8_write r_X8_write_27 rfl rfl rfl rfl ?_
  refine lp_in (R := fun (j29 : (Nat → Nat → Nat → RN)) => ∀ (x23 x24 M25 : Nat), j29 x23 x24 M25 = some r → SN l g D sl 9 0 q q 3 29 [(0, .inr (.inr (.inl 11))), (2, .inl a2), (3, .inl v1), (4, .inl x23), (5, .inl x24)] [] M25 (PR r)) h (fun _ _ _ h => by cases h) (fun j29 hj29 => ?_) (fun j29 hj29 h => ?_)
  · intro x23 x24 M25 h
    refine b_il (pc' := 31) (a := .inl x24) tb_X8_write r_X8_write_29 rfl rfl rfl ?_
    refine b_iln (pc' := 32) (a := .inl a2) tb_X8_write r_X8_write_31 rfl rfl rfl ?_
    rcases bK_in h with ⟨c1, h⟩ | ⟨c1, h⟩
    · refine b_icT (t := 99) tb_X8_write r_X8_write_32 rfl ((nGe_c _ _).symm.trans c1) ?_
      refine b_aln (pc' := 100) (a := .inr (.inr (.inl 11))) tb_X8_write r_X8_write_99 rfl rfl rfl ?_
      refine b_il (pc' := 102) (a := .inl x23) tb_X8_write r_X8_write_100 rfl rfl rfl ?_
      obtain ⟨M26, cM26, h⟩ := pK_in h
      refine b_pi (pc' := 105) tb_X8_write r_X8_write_102 rfl tF_11_9_2 cM26 rfl ?_
      refine b_iln (pc' := 106) (a := .inl v1) tb_X8_write r_X8_write_105 rfl rfl rfl ?_
      exact b_ri tb_X8_write r_X8_write_106 rfl (sj h).symm
    · refine b_icF (t := 99) (pc' := 35) tb_X8_write r_X8_write_32 rfl ((nGe_c _ _).symm.trans c1) rfl ?_
      refine b_il (pc' := 37) (a := .inl x23) tb_X8_write r_X8_write_35 rfl rfl rfl ?_
      refine b_iln (pc' := 38) (a := .inl v1) tb_X8_write r_X8_write_37 rfl rfl rfl ?_
      refine b_sub (pc' := 39) tb_X8_write r_X8_write_38 rfl ?_
      refine b_aln (pc' := 40) (a := .inr (.inr (.inl 11))) tb_X8_write r_X8_write_39 rfl rfl rfl ?_
      refine b_gr (pc' := 43) tb_X8_write r_X8_write_40 tF_11_9_6 rfl ?_
      refine b_il (pc' := 45) (a := .inl x24) tb_X8_write r_X8_write_43 rfl rfl rfl ?_
      obtain ⟨v27, dv27, cv27, h⟩ := lK_in h
      refine b_ia (pc' := 46) tb_X8_write r_X8_write_45 tA_15 dv27 cv27 rfl ?_
      refine b_add (pc' := 47) tb_X8_write r_X8_write_46 rfl ?_
      refine b_bi (pc' := 49) (20) tb_X8_write r_X8_write_47 rfl rfl rfl ?_
      obtain ⟨c1, h⟩ := bK_t h
      refine b_icT (t := 54) tb_X8_write r_X8_write_49 rfl ((nLe_c _ _).symm.trans c1) ?_
      refine b_aln (pc' := 55) (a := .inr (.inr (.inl 11))) tb_X8_write r_X8_write_54 rfl rfl rfl ?_
      refine b_gr (pc' := 58) tb_X8_write r_X8_write_55 tF_11_9_1 rfl ?_
      refine b_aln (pc' := 59) (a := .inr (.inr (.inl 11))) tb_X8_write r_X8_write_58 rfl rfl rfl ?_
      refine b_gr (pc' := 62) tb_X8_write r_X8_write_59 tF_11_9_5 rfl ?_
      refine b_il (pc' := 64) (a := .inl x24) tb_X8_write r_X8_write_62 rfl rfl rfl ?_
      obtain ⟨v34, dv34, cv34, h⟩ := lK_in h
      refine b_ia (pc' := 65) tb_X8_write r_X8_write_64 tA_14 dv34 cv34 rfl ?_
      refine b_aln (pc' := 66) (a := .inr (.inr (.inl 11))) tb_X8_write r_X8_write_65 rfl rfl rfl ?_
      refine b_gr (pc' := 69) tb_X8_write r_X8_write_66 tF_11_9_1 rfl ?_
      refine b_il (pc' := 71) (a := .inl x23) tb_X8_write r_X8_write_69 rfl rfl rfl ?_
      refine b_aln (pc' := 72) (a := .inr (.inr (.inl 11))) tb_X8_write r_X8_write_71 rfl rfl rfl ?_
      refine b_gr (pc' := 75) tb_X8_write r_X8_write_72 tF_11_9_6 rfl ?_
      refine b_il (pc' := 77) (a := .inl x24) tb_X8_write r_X8_write_75 rfl rfl rfl ?_
      obtain ⟨v35, dv35, cv35, h⟩ := lK_in h
      refine b_ia (pc' := 78) tb_X8_write r_X8_write_77 tA_15 dv35 cv35 rfl ?_
      obtain ⟨M36, _, _, dM36, fM36, cM36, h⟩ := cpK_in h
      refine b_cp (by decide) (pc' := 81) tb_X8_write r_X8_write_78 tA_12 rfl dM36 fM36 cM36 rfl ?_
      refine b_il (pc' := 83) (a := .inl x23) tb_X8_write r_X8_write_81 rfl rfl rfl ?_
      refine b_aln (pc' := 84) (a := .inr (.inr (.inl 11))) tb_X8_write r_X8_write_83 rfl rfl rfl ?_
      refine b_gr (pc' := 87) tb_X8_write r_X8_write_84 tF_11_9_6 rfl ?_
      refine b_il (pc' := 89) (a := .inl x24) tb_X8_write r_X8_write_87 rfl rfl rfl ?_
      obtain ⟨v37, dv37, cv37, h⟩ := lK_in h
      refine b_ia (pc' := 90) tb_X8_write r_X8_write_89 tA_15 dv37 cv37 rfl ?_
      refine b_add (pc' := 91) tb_X8_write r_X8_write_90 rfl ?_
      obtain ⟨v38, ev38, h⟩ := fK_v h
      rw [ev38]
      refine b_st (pc' := 93) [(4, .inl v38), (0, .inr (.inr (.inl 11))), (2, .inl a2), (3, .inl v1), (5, .inl x24)] tb_X8_write r_X8_write_91 rfl rfl rfl rfl ?_
      refine b_inc (pc' := 96) (v := x24) (n := 1) [(5, .inl (oAdd x24 1)), (4, .inl v38), (0, .inr (.inr (.inl 11))), (2, .inl a2), (3, .inl v1)] tb_X8_write r_X8_write_93 rfl rfl rfl rfl rfl ?_
      obtain ⟨v39, ev39, h⟩ := fK_v h
      rw [ev39]
      refine b_goto (pc' := 29) tb_X8_write r_X8_write_96 rfl ?_
      refine b_sub9 [(0, .inr (.inr (.inl 11))), (2, .inl a2), (3, .inl v1), (4, .inl v38), (5, .inl v39)] ⟨rfl, rfl, rfl, rfl, rfl, trivial⟩ ?_
      exact hj29 _ _ _ h
  refine b_sub9 [(0, .inr (.inr (.inl 11))), (2, .inl a2), (3, .inl v1), (4, .inl v22), (5, .inl 0)] ⟨rfl, rfl, rfl, rfl, rfl, trivial⟩ ?_
  exact hj29 _ _ _ h
noncomputable def m_X8_end (a1 : Nat) (M0 : Nat) : RN :=
  lp (fun _ _ _ => none) (fun (j4 : (Nat → Nat →  Nat → RN)) => fun (x1 : Nat) (x2 : Nat) (M3 : Nat) => jn (fun (M4 : Nat) => some (Nat.add x2 2, M4)) (fun (j50 : ( Nat → RN)) => bK (zLe x1) (j50 M3) (bK (nGe x2 27500) (j50 M3) (lK2 M3 5731 660 7500 8932 x2 (fun v5 => bK (nGe v5 32) (dvK Nat.mod v5 8 (fun v9 => fK (oAdd x1 (oSub v9 1)) (fun v10 => fK (oAdd x2 1) (fun v11 => j4 v10 v11 M3)))) none))))) (fun (j4 : (Nat → Nat →  Nat → RN)) => j4 1 a1 M0)
set_option maxRecDepth 100000 in
theorem snd_X8_end {l : Launch} {g : GV} {D : va_G} {sl q : Nat} {a1 M0 : Nat} {r : Nat × Nat} (h : m_X8_end a1 M0 = some r) : SN l g D sl 9 0 q q 1 0 [(0, .inr (.inr (.inl 11))), (1, .inl a1)] [] M0 (PR r) := by
  unfold m_X8_end at h
  refine b_ic (pc' := 1) (1) tb_X8_end r_X8_end_0 rfl rfl ?_
  refine b_stn (pc' := 2) [(2, .inl 1), (0, .inr (.inr (.inl 11))), (1, .inl a1)] tb_X8_end r_X8_end_1 rfl rfl rfl rfl ?_
  refine b_iln (pc' := 3) (a := .inl a1) tb_X8_end r_X8_end_2 rfl rfl rfl ?_
  refine b_stn (pc' := 4) [(3, .inl a1), (2, .inl 1), (0, .inr (.inr (.inl 11))), (1, .inl a1)] tb_X8_end r_X8_end_3 rfl rfl rfl rfl ?_
  refine lp_in (R := fun (j4 : (Nat → Nat → Nat → RN)) => ∀ (x1 x2 M3 : Nat), j4 x1 x2 M3 = some r → SN l g D sl 9 0 q q 1 4 [(0, .inr (.inr (.inl 11))), (2, .inl x1), (3, .inl x2)] [] M3 (PR r)) h (fun _ _ _ h => by cases h) (fun j4 hj4 => ?_) (fun j4 hj4 h => ?_)
  · intro x1 x2 M3 h
    refine b_iln (pc' := 5) (a := .inl x1) tb_X8_end r_X8_end_4 rfl rfl rfl ?_
    refine jn_in (R := fun (j50 : ( Nat → RN)) => ∀ (M4 : Nat), j50 M4 = some r → SN l g D sl 9 0 q q 1 50 [(3, .inl x2)] [] M4 (PR r)) h (fun M4 h => ?_) (fun j50 hj50 h => ?_)
    · skip
      refine b_iln (pc' := 51) (a := .inl x2) tb_X8_end r_X8_end_50 rfl rfl rfl ?_
      exact b_ri tb_X8_end r_X8_end_51 rfl (sj h).symm
    rcases bK_in h with ⟨c1, h⟩ | ⟨c1, h⟩
    · refine b_ifT (t := 50) tb_X8_end r_X8_end_5 rfl ((zLe_c _).symm.trans c1) ?_
      refine b_sub9 [(3, .inl x2)] ⟨rfl, trivial⟩ ?_
      exact hj50 _ h
    · refine b_ifF (t := 50) (pc' := 8) tb_X8_end r_X8_end_5 rfl ((zLe_c _).symm.trans c1) rfl ?_
      refine b_iln (pc' := 9) (a := .inl x2) tb_X8_end r_X8_end_8 rfl rfl rfl ?_
      refine b_si (pc' := 12) (27500) tb_X8_end r_X8_end_9 rfl rfl rfl ?_
      rcases bK_in h with ⟨c1, h⟩ | ⟨c1, h⟩
      · refine b_icT (t := 50) tb_X8_end r_X8_end_12 rfl ((nGe_c _ _).symm.trans c1) ?_
        refine b_sub9 [(3, .inl x2)] ⟨rfl, trivial⟩ ?_
        exact hj50 _ h
      · refine b_icF (t := 50) (pc' := 15) tb_X8_end r_X8_end_12 rfl ((nGe_c _ _).symm.trans c1) rfl ?_
        refine b_aln (pc' := 16) (a := .inr (.inr (.inl 11))) tb_X8_end r_X8_end_15 rfl rfl rfl ?_
        refine b_gr (pc' := 19) tb_X8_end r_X8_end_16 tF_11_9_1 rfl ?_
        refine b_iln (pc' := 20) (a := .inl x2) tb_X8_end r_X8_end_19 rfl rfl rfl ?_
        obtain ⟨v5, _, dv5, cv5, h⟩ := lK2_in h
        refine b_ia2 (pc' := 21) tb_X8_end r_X8_end_20 tA_12 dv5 cv5 rfl ?_
        refine b_st (pc' := 23) [(4, .inl v5), (0, .inr (.inr (.inl 11))), (2, .inl x1), (3, .inl x2)] tb_X8_end r_X8_end_21 rfl rfl rfl rfl ?_
        refine b_iln (pc' := 24) (a := .inl x1) tb_X8_end r_X8_end_23 rfl rfl rfl ?_
        refine b_il (pc' := 26) (a := .inl v5) tb_X8_end r_X8_end_24 rfl rfl rfl ?_
        refine b_bi (pc' := 28) (32) tb_X8_end r_X8_end_26 rfl rfl rfl ?_
        obtain ⟨c1, h⟩ := bK_t h
        refine b_icT (t := 35) tb_X8_end r_X8_end_28 rfl ((nGe_c _ _).symm.trans c1) ?_
        refine b_il (pc' := 37) (a := .inl v5) tb_X8_end r_X8_end_35 rfl rfl rfl ?_
        refine b_bi (pc' := 39) (8) tb_X8_end r_X8_end_37 rfl rfl rfl ?_
        obtain ⟨v9, c1, c2, c3, ev9, h⟩ := dvK_in h
        refine b_rem (pc' := 40) tb_X8_end r_X8_end_39 c1 c2 c3 ev9 rfl ?_
        refine b_ic (pc' := 41) (1) tb_X8_end r_X8_end_40 rfl rfl ?_
        refine b_sub (pc' := 42) tb_X8_end r_X8_end_41 rfl ?_
        refine b_add (pc' := 43) tb_X8_end r_X8_end_42 rfl ?_
        obtain ⟨v10, ev10, h⟩ := fK_v h
        rw [ev10]
        refine b_stn (pc' := 44) [(2, .inl v10), (4, .inl v5), (0, .inr (.inr (.inl 11))), (3, .inl x2)] tb_X8_end r_X8_end_43 rfl rfl rfl rfl ?_
        refine b_inc (pc' := 47) (v := x2) (n := 1) [(3, .inl (oAdd x2 1)), (2, .inl v10), (4, .inl v5), (0, .inr (.inr (.inl 11)))] tb_X8_end r_X8_end_44 rfl rfl rfl rfl rfl ?_
        obtain ⟨v11, ev11, h⟩ := fK_v h
        rw [ev11]
        refine b_goto (pc' := 4) tb_X8_end r_X8_end_47 rfl ?_
        refine b_sub9 [(0, .inr (.inr (.inl 11))), (2, .inl v10), (3, .inl v11)] ⟨rfl, rfl, rfl, trivial⟩ ?_
        exact hj4 _ _ _ h
  refine b_sub9 [(0, .inr (.inr (.inl 11))), (2, .inl 1), (3, .inl a1)] ⟨rfl, rfl, rfl, trivial⟩ ?_
  exact hj4 _ _ _ h
noncomputable def m_X8_putOn (a1 a2 : Nat) (M0 : Nat) : RN :=
  lK M0 7886 2 a1 (fun v1 => bK (nLt v1 2) (lK M0 7884 2 a1 (fun v559 => bK (nNe v559 4294967295) none (rK M0 7904 (fun v560 => pK M0 7904 a2 (fun M561 => lp (fun _ _ _ => none) (fun (j70 : (Nat → Nat →  Nat → RN)) => fun (x562 : Nat) (x563 : Nat) (M564 : Nat) => bK (nGe x563 v560) (jn (fun (M565 : Nat) => jn (fun (M566 : Nat) => fK (oAdd (oAdd 32 (oMul a1 8)) x562) (fun v567 => cI (m_X8_write v567 x562 M566) (fun v569 M568 => some (Nat.add v569 2, M568)))) (fun (j336 : ( Nat → RN)) => bK (zNe x562) (j336 M565) (bK (zEq 0) (j336 M565) none))) (fun (j320 : ( Nat → RN)) => bK (nNe x562 1) (j320 M564) (bK (zEq 0) (j320 M564) none))) (lK M564 7898 1 x563 (fun v570 => lK2 M564 5731 660 7500 8932 v570 (fun v571 => bK (zEq 0) (bK (zEq 0) (bK (nNe v571 4294967295) (bK (zEq 0) (fK (oAdd v570 0) (fun v1082 => lp (fun _ _ _ _ => none) (fun (j163 : (Nat → Nat → Nat →  Nat → RN)) => fun (x1083 : Nat) (x1084 : Nat) (x1085 : Nat) (M1086 : Nat) => bK (nGe x1085 1) (fK (oAdd x563 1) (fun v1087 => j70 x1083 v1087 M1086)) (bK (nLt x1083 5) (bK (zLe x1083) (sK M1086 7899 1 x1083 x1084 (fun M1109 => cI (m_X8_end x1084 M1109) (fun v1111 M1110 => lK M1110 7899 1 x1083 (fun v1112 => sK M1110 7900 1 x1083 (oSub v1111 v1112) (fun M1113 => fK (oAdd x1083 1) (fun v1114 => fK (oAdd x1085 1) (fun v1115 => j163 v1114 v1111 v1115 M1113))))))) none) none)) (fun (j163 : (Nat → Nat → Nat →  Nat → RN)) => j163 x562 v1082 0 M564))) none) none) none) none)))) (fun (j70 : (Nat → Nat →  Nat → RN)) => j70 0 a2 M561)))))) none)
set_option maxRecDepth 100000 in
theorem snd_X8_putOn {l : Launch} {g : GV} {D : va_G} {sl q : Nat} {a1 a2 M0 : Nat} {r : Nat × Nat} (h : m_X8_putOn a1 a2 M0 = some r) : SN l g D sl 10 0 q q 2 0 [(0, .inr (.inr (.inl 11))), (1, .inl a1), (2, .inl a2)] [] M0 (PR r) := by
  unfold m_X8_putOn at h
  refine b_aln (pc' := 1) (a := .inr (.inr (.inl 11))) tb_X8_putOn r_X8_putOn_0 rfl rfl rfl ?_
  refine b_gr (pc' := 4) tb_X8_putOn r_X8_putOn_1 tF_11_9_0 rfl ?_
  refine b_gr (pc' := 7) tb_X8_putOn r_X8_putOn_4 tF_1_8_5 rfl ?_
  refine b_iln (pc' := 8) (a := .inl a1) tb_X8_putOn r_X8_putOn_7 rfl rfl rfl ?_
  obtain ⟨v1, dv1, cv1, h⟩ := lK_in h
  refine b_ia (pc' := 9) tb_X8_putOn r_X8_putOn_8 tA_5 dv1 cv1 rfl ?_
  refine b_stn (pc' := 10) [(3, .inl v1), (0, .inr (.inr (.inl 11))), (1, .inl a1), (2, .inl a2)] tb_X8_putOn r_X8_putOn_9 rfl rfl rfl rfl ?_
  refine b_iln (pc' := 11) (a := .inl v1) tb_X8_putOn r_X8_putOn_10 rfl rfl rfl ?_
  refine b_ic (pc' := 12) (2) tb_X8_putOn r_X8_putOn_11 rfl rfl ?_
  obtain ⟨c1, h⟩ := bK_t h
  refine b_icT (t := 19) tb_X8_putOn r_X8_putOn_12 rfl ((nLt_c _ _).symm.trans c1) ?_
  refine b_ic (pc' := 20) (0) tb_X8_putOn r_X8_putOn_19 rfl rfl ?_
  refine b_st (pc' := 22) [(4, .inl 0), (3, .inl v1), (0, .inr (.inr (.inl 11))), (1, .inl a1), (2, .inl a2)] tb_X8_putOn r_X8_putOn_20 rfl rfl rfl rfl ?_
  refine b_aln (pc' := 23) (a := .inr (.inr (.inl 11))) tb_X8_putOn r_X8_putOn_22 rfl rfl rfl ?_
  refine b_gr (pc' := 26) tb_X8_putOn r_X8_putOn_23 tF_11_9_0 rfl ?_
  refine b_gr (pc' := 29) tb_X8_putOn r_X8_putOn_26 tF_1_8_6 rfl ?_
  refine b_iln (pc' := 30) (a := .inl a1) tb_X8_putOn r_X8_putOn_29 rfl rfl rfl ?_
  obtain ⟨v559, dv559, cv559, h⟩ := lK_in h
  refine b_ia (pc' := 31) tb_X8_putOn r_X8_putOn_30 tA_6 dv559 cv559 rfl ?_
  refine b_st (pc' := 33) [(5, .inl v559), (4, .inl 0), (3, .inl v1), (0, .inr (.inr (.inl 11))), (1, .inl a1), (2, .inl a2)] tb_X8_putOn r_X8_putOn_31 rfl rfl rfl rfl ?_
  refine b_il (pc' := 35) (a := .inl v559) tb_X8_putOn r_X8_putOn_33 rfl rfl rfl ?_
  refine b_ic (pc' := 36) (4294967295) tb_X8_putOn r_X8_putOn_35 rfl rfl ?_
  obtain ⟨c1, h⟩ := bK_f h
  refine b_icF (t := 43) (pc' := 39) tb_X8_putOn r_X8_putOn_36 rfl ((nNe_c _ _).symm.trans c1) rfl ?_
  refine b_ic (pc' := 40) (4294967295) tb_X8_putOn r_X8_putOn_39 rfl rfl ?_
  refine b_goto (pc' := 51) tb_X8_putOn r_X8_putOn_40 rfl ?_
  refine b_st (pc' := 53) [(6, .inl 4294967295), (5, .inl v559), (4, .inl 0), (3, .inl v1), (0, .inr (.inr (.inl 11))), (1, .inl a1), (2, .inl a2)] tb_X8_putOn r_X8_putOn_51 rfl rfl rfl rfl ?_
  refine b_aln (pc' := 54) (a := .inr (.inr (.inl 11))) tb_X8_putOn r_X8_putOn_53 rfl rfl rfl ?_
  obtain ⟨v560, cv560, h⟩ := rK_in h
  refine b_gi (pc' := 57) tb_X8_putOn r_X8_putOn_54 tF_11_9_4 cv560 rfl ?_
  refine b_st (pc' := 59) [(7, .inl v560), (6, .inl 4294967295), (5, .inl v559), (4, .inl 0), (3, .inl v1), (0, .inr (.inr (.inl 11))), (1, .inl a1), (2, .inl a2)] tb_X8_putOn r_X8_putOn_57 rfl rfl rfl rfl ?_
  refine b_ic (pc' := 60) (0) tb_X8_putOn r_X8_putOn_59 rfl rfl ?_
  refine b_st (pc' := 62) [(8, .inl 0), (7, .inl v560), (6, .inl 4294967295), (5, .inl v559), (4, .inl 0), (3, .inl v1), (0, .inr (.inr (.inl 11))), (1, .inl a1), (2, .inl a2)] tb_X8_putOn r_X8_putOn_60 rfl rfl rfl rfl ?_
  refine b_aln (pc' := 63) (a := .inr (.inr (.inl 11))) tb_X8_putOn r_X8_putOn_62 rfl rfl rfl ?_
  refine b_iln (pc' := 64) (a := .inl a2) tb_X8_putOn r_X8_putOn_63 rfl rfl rfl ?_
  obtain ⟨M561, cM561, h⟩ := pK_in h
  refine b_pi (pc' := 67) tb_X8_putOn r_X8_putOn_64 rfl tF_11_9_4 cM561 rfl ?_
  refine b_iln (pc' := 68) (a := .inl a2) tb_X8_putOn r_X8_putOn_67 rfl rfl rfl ?_
  refine b_st (pc' := 70) [(9, .inl a2), (8, .inl 0), (7, .inl v560), (6, .inl 4294967295), (5, .inl v559), (4, .inl 0), (3, .inl v1), (0, .inr (.inr (.inl 11))), (1, .inl a1), (2, .inl a2)] tb_X8_putOn r_X8_putOn_68 rfl rfl rfl rfl ?_
  refine lp_in (R := fun (j70 : (Nat → Nat → Nat → RN)) => ∀ (x562 x563 M564 : Nat), j70 x562 x563 M564 = some r → SN l g D sl 10 0 q q 2 70 [(0, .inr (.inr (.inl 11))), (1, .inl a1), (4, .inl 0), (6, .inl 4294967295), (7, .inl v560), (8, .inl x562), (9, .inl x563)] [] M564 (PR r)) h (fun _ _ _ h => by cases h) (fun j70 hj70 => ?_) (fun j70 hj70 h => ?_)
  · intro x562 x563 M564 h
    refine b_il (pc' := 72) (a := .inl x563) tb_X8_putOn r_X8_putOn_70 rfl rfl rfl ?_
    refine b_il (pc' := 74) (a := .inl v560) tb_X8_putOn r_X8_putOn_72 rfl rfl rfl ?_
    rcases bK_in h with ⟨c1, h⟩ | ⟨c1, h⟩
    · refine b_icT (t := 302) tb_X8_putOn r_X8_putOn_74 rfl ((nGe_c _ _).symm.trans c1) ?_
      refine b_il (pc' := 304) (a := .inl x562) tb_X8_putOn r_X8_putOn_302 rfl rfl rfl ?_
      refine b_ic (pc' := 305) (1) tb_X8_putOn r_X8_putOn_304 rfl rfl ?_
      refine jn_in (R := fun (j320 : ( Nat → RN)) => ∀ (M565 : Nat), j320 M565 = some r → SN l g D sl 10 0 q q 2 320 [(0, .inr (.inr (.inl 11))), (1, .inl a1), (4, .inl 0), (8, .inl x562)] [] M565 (PR r)) h (fun M565 h => ?_) (fun j320 hj320 h => ?_)
      · skip
        refine b_aln (pc' := 321) (a := .inr (.inr (.inl 11))) tb_X8_putOn r_X8_putOn_320 rfl rfl rfl ?_
        refine b_il (pc' := 323) (a := .inl x562) tb_X8_putOn r_X8_putOn_321 rfl rfl rfl ?_
        refine jn_in (R := fun (j336 : ( Nat → RN)) => ∀ (M566 : Nat), j336 M566 = some r → SN l g D sl 10 0 q q 2 336 [(1, .inl a1), (8, .inl x562)] [.inr (.inr (.inl 11))] M566 (PR r)) h (fun M566 h => ?_) (fun j336 hj336 h => ?_)
        · skip
          refine b_bi (pc' := 338) (32) tb_X8_putOn r_X8_putOn_336 rfl rfl rfl ?_
          refine b_iln (pc' := 339) (a := .inl a1) tb_X8_putOn r_X8_putOn_338 rfl rfl rfl ?_
          refine b_bi (pc' := 341) (8) tb_X8_putOn r_X8_putOn_339 rfl rfl rfl ?_
          refine b_mul (pc' := 342) tb_X8_putOn r_X8_putOn_341 rfl ?_
          refine b_add (pc' := 343) tb_X8_putOn r_X8_putOn_342 rfl ?_
          refine b_il (pc' := 345) (a := .inl x562) tb_X8_putOn r_X8_putOn_343 rfl rfl rfl ?_
          refine b_add (pc' := 346) tb_X8_putOn r_X8_putOn_345 rfl ?_
          refine b_il (pc' := 348) (a := .inl x562) tb_X8_putOn r_X8_putOn_346 rfl rfl rfl ?_
          obtain ⟨v567, ev567, h⟩ := fK_v h
          rw [ev567]
          obtain ⟨v569, M568, ov569, h⟩ := cI_in h
          refine b_vI (pc' := 351) tb_X8_putOn r_X8_putOn_348 tb_X8_write mo_X8_write (by decide) rfl rfl ov569 (fun r hr => snd_X8_write hr) (by decide) rfl rfl rfl ?_
          exact b_ri tb_X8_putOn r_X8_putOn_351 rfl (sj h).symm
        rcases bK_in h with ⟨c1, h⟩ | ⟨c1, h⟩
        · refine b_ifT (t := 336) tb_X8_putOn r_X8_putOn_323 rfl ((zNe_c _).symm.trans c1) ?_
          refine b_sub9 [(1, .inl a1), (8, .inl x562)] ⟨rfl, rfl, trivial⟩ ?_
          exact hj336 _ h
        · refine b_ifF (t := 336) (pc' := 326) tb_X8_putOn r_X8_putOn_323 rfl ((zNe_c _).symm.trans c1) rfl ?_
          refine b_il (pc' := 328) (a := .inl 0) tb_X8_putOn r_X8_putOn_326 rfl rfl rfl ?_
          obtain ⟨c1, h⟩ := bK_t h
          refine b_ifT (t := 336) tb_X8_putOn r_X8_putOn_328 rfl ((zEq_c _).symm.trans c1) ?_
          refine b_sub9 [(1, .inl a1), (8, .inl x562)] ⟨rfl, rfl, trivial⟩ ?_
          exact hj336 _ h
      rcases bK_in h with ⟨c1, h⟩ | ⟨c1, h⟩
      · refine b_icT (t := 320) tb_X8_putOn r_X8_putOn_305 rfl ((nNe_c _ _).symm.trans c1) ?_
        refine b_sub9 [(0, .inr (.inr (.inl 11))), (1, .inl a1), (4, .inl 0), (8, .inl x562)] ⟨rfl, rfl, rfl, rfl, trivial⟩ ?_
        exact hj320 _ h
      · refine b_icF (t := 320) (pc' := 308) tb_X8_putOn r_X8_putOn_305 rfl ((nNe_c _ _).symm.trans c1) rfl ?_
        refine b_il (pc' := 310) (a := .inl 0) tb_X8_putOn r_X8_putOn_308 rfl rfl rfl ?_
        obtain ⟨c1, h⟩ := bK_t h
        refine b_ifT (t := 320) tb_X8_putOn r_X8_putOn_310 rfl ((zEq_c _).symm.trans c1) ?_
        refine b_sub9 [(0, .inr (.inr (.inl 11))), (1, .inl a1), (4, .inl 0), (8, .inl x562)] ⟨rfl, rfl, rfl, rfl, trivial⟩ ?_
        exact hj320 _ h
    · refine b_icF (t := 302) (pc' := 77) tb_X8_putOn r_X8_putOn_74 rfl ((nGe_c _ _).symm.trans c1) rfl ?_
      refine b_aln (pc' := 78) (a := .inr (.inr (.inl 11))) tb_X8_putOn r_X8_putOn_77 rfl rfl rfl ?_
      refine b_gr (pc' := 81) tb_X8_putOn r_X8_putOn_78 tF_11_9_3 rfl ?_
      refine b_il (pc' := 83) (a := .inl x563) tb_X8_putOn r_X8_putOn_81 rfl rfl rfl ?_
      obtain ⟨v570, dv570, cv570, h⟩ := lK_in h
      refine b_ia (pc' := 84) tb_X8_putOn r_X8_putOn_83 tA_13 dv570 cv570 rfl ?_
      refine b_st (pc' := 86) [(10, .inl v570), (0, .inr (.inr (.inl 11))), (1, .inl a1), (4, .inl 0), (6, .inl 4294967295), (7, .inl v560), (8, .inl x562), (9, .inl x563)] tb_X8_putOn r_X8_putOn_84 rfl rfl rfl rfl ?_
      refine b_aln (pc' := 87) (a := .inr (.inr (.inl 11))) tb_X8_putOn r_X8_putOn_86 rfl rfl rfl ?_
      refine b_gr (pc' := 90) tb_X8_putOn r_X8_putOn_87 tF_11_9_1 rfl ?_
      refine b_il (pc' := 92) (a := .inl v570) tb_X8_putOn r_X8_putOn_90 rfl rfl rfl ?_
      obtain ⟨v571, _, dv571, cv571, h⟩ := lK2_in h
      refine b_ia2 (pc' := 93) tb_X8_putOn r_X8_putOn_92 tA_12 dv571 cv571 rfl ?_
      refine b_st (pc' := 95) [(11, .inl v571), (10, .inl v570), (0, .inr (.inr (.inl 11))), (1, .inl a1), (4, .inl 0), (6, .inl 4294967295), (7, .inl v560), (8, .inl x562), (9, .inl x563)] tb_X8_putOn r_X8_putOn_93 rfl rfl rfl rfl ?_
      refine b_il (pc' := 97) (a := .inl 0) tb_X8_putOn r_X8_putOn_95 rfl rfl rfl ?_
      obtain ⟨c1, h⟩ := bK_t h
      refine b_ifT (t := 115) tb_X8_putOn r_X8_putOn_97 rfl ((zEq_c _).symm.trans c1) ?_
      refine b_ic (pc' := 116) (0) tb_X8_putOn r_X8_putOn_115 rfl rfl ?_
      refine b_st (pc' := 118) [(12, .inl 0), (11, .inl v571), (10, .inl v570), (0, .inr (.inr (.inl 11))), (1, .inl a1), (4, .inl 0), (6, .inl 4294967295), (7, .inl v560), (8, .inl x562), (9, .inl x563)] tb_X8_putOn r_X8_putOn_116 rfl rfl rfl rfl ?_
      refine b_il (pc' := 120) (a := .inl 0) tb_X8_putOn r_X8_putOn_118 rfl rfl rfl ?_
      obtain ⟨c1, h⟩ := bK_t h
      refine b_ifT (t := 131) tb_X8_putOn r_X8_putOn_120 rfl ((zEq_c _).symm.trans c1) ?_
      refine b_il (pc' := 133) (a := .inl v571) tb_X8_putOn r_X8_putOn_131 rfl rfl rfl ?_
      refine b_il (pc' := 135) (a := .inl 4294967295) tb_X8_putOn r_X8_putOn_133 rfl rfl rfl ?_
      obtain ⟨c1, h⟩ := bK_t h
      refine b_icT (t := 142) tb_X8_putOn r_X8_putOn_135 rfl ((nNe_c _ _).symm.trans c1) ?_
      refine b_ic (pc' := 143) (1) tb_X8_putOn r_X8_putOn_142 rfl rfl ?_
      refine b_st (pc' := 145) [(13, .inl 1), (12, .inl 0), (11, .inl v571), (10, .inl v570), (0, .inr (.inr (.inl 11))), (1, .inl a1), (4, .inl 0), (6, .inl 4294967295), (7, .inl v560), (8, .inl x562), (9, .inl x563)] tb_X8_putOn r_X8_putOn_143 rfl rfl rfl rfl ?_
      refine b_il (pc' := 147) (a := .inl v570) tb_X8_putOn r_X8_putOn_145 rfl rfl rfl ?_
      refine b_il (pc' := 149) (a := .inl 0) tb_X8_putOn r_X8_putOn_147 rfl rfl rfl ?_
      obtain ⟨c1, h⟩ := bK_t h
      refine b_ifT (t := 156) tb_X8_putOn r_X8_putOn_149 rfl ((zEq_c _).symm.trans c1) ?_
      refine b_ic (pc' := 157) (0) tb_X8_putOn r_X8_putOn_156 rfl rfl ?_
      refine b_add (pc' := 158) tb_X8_putOn r_X8_putOn_157 rfl ?_
      obtain ⟨v1082, ev1082, h⟩ := fK_v h
      rw [ev1082]
      refine b_st (pc' := 160) [(10, .inl v1082), (13, .inl 1), (12, .inl 0), (11, .inl v571), (0, .inr (.inr (.inl 11))), (1, .inl a1), (4, .inl 0), (6, .inl 4294967295), (7, .inl v560), (8, .inl x562), (9, .inl x563)] tb_X8_putOn r_X8_putOn_158 rfl rfl rfl rfl ?_
      refine b_ic (pc' := 161) (0) tb_X8_putOn r_X8_putOn_160 rfl rfl ?_
      refine b_st (pc' := 163) [(14, .inl 0), (10, .inl v1082), (13, .inl 1), (12, .inl 0), (11, .inl v571), (0, .inr (.inr (.inl 11))), (1, .inl a1), (4, .inl 0), (6, .inl 4294967295), (7, .inl v560), (8, .inl x562), (9, .inl x563)] tb_X8_putOn r_X8_putOn_161 rfl rfl rfl rfl ?_
      refine lp_in (R := fun (j163 : (Nat → Nat → Nat → Nat → RN)) => ∀ (x1083 x1084 x1085 M1086 : Nat), j163 x1083 x1084 x1085 M1086 = some r → SN l g D sl 10 0 q q 2 163 [(0, .inr (.inr (.inl 11))), (1, .inl a1), (4, .inl 0), (6, .inl 4294967295), (7, .inl v560), (8, .inl x1083), (9, .inl x563), (10, .inl x1084), (13, .inl 1), (14, .inl x1085)] [] M1086 (PR r)) h (fun _ _ _ _ h => by cases h) (fun j163 hj163 => ?_) (fun j163 hj163 h => ?_)
      · intro x1083 x1084 x1085 M1086 h
        refine b_il (pc' := 165) (a := .inl x1085) tb_X8_putOn r_X8_putOn_163 rfl rfl rfl ?_
        refine b_il (pc' := 167) (a := .inl 1) tb_X8_putOn r_X8_putOn_165 rfl rfl rfl ?_
        rcases bK_in h with ⟨c1, h⟩ | ⟨c1, h⟩
        · refine b_icT (t := 296) tb_X8_putOn r_X8_putOn_167 rfl ((nGe_c _ _).symm.trans c1) ?_
          refine b_inc (pc' := 299) (v := x563) (n := 1) [(9, .inl (oAdd x563 1)), (0, .inr (.inr (.inl 11))), (1, .inl a1), (4, .inl 0), (6, .inl 4294967295), (7, .inl v560), (8, .inl x1083), (10, .inl x1084), (13, .inl 1), (14, .inl x1085)] tb_X8_putOn r_X8_putOn_296 rfl rfl rfl rfl rfl ?_
          obtain ⟨v1087, ev1087, h⟩ := fK_v h
          rw [ev1087]
          refine b_goto (pc' := 70) tb_X8_putOn r_X8_putOn_299 rfl ?_
          refine b_sub9 [(0, .inr (.inr (.inl 11))), (1, .inl a1), (4, .inl 0), (6, .inl 4294967295), (7, .inl v560), (8, .inl x1083), (9, .inl v1087)] ⟨rfl, rfl, rfl, rfl, rfl, rfl, rfl, trivial⟩ ?_
          exact hj70 _ _ _ h
        · refine b_icF (t := 296) (pc' := 170) tb_X8_putOn r_X8_putOn_167 rfl ((nGe_c _ _).symm.trans c1) rfl ?_
          refine b_il (pc' := 172) (a := .inl x1083) tb_X8_putOn r_X8_putOn_170 rfl rfl rfl ?_
          refine b_ic (pc' := 173) (5) tb_X8_putOn r_X8_putOn_172 rfl rfl ?_
          obtain ⟨c1, h⟩ := bK_t h
          refine b_icT (t := 178) tb_X8_putOn r_X8_putOn_173 rfl ((nLt_c _ _).symm.trans c1) ?_
          refine b_il (pc' := 180) (a := .inl x1083) tb_X8_putOn r_X8_putOn_178 rfl rfl rfl ?_
          refine b_st (pc' := 182) [(15, .inl x1083), (0, .inr (.inr (.inl 11))), (1, .inl a1), (4, .inl 0), (6, .inl 4294967295), (7, .inl v560), (8, .inl x1083), (9, .inl x563), (10, .inl x1084), (13, .inl 1), (14, .inl x1085)] tb_X8_putOn r_X8_putOn_180 rfl rfl rfl rfl ?_
          refine b_il (pc' := 184) (a := .inl x1083) tb_X8_putOn r_X8_putOn_182 rfl rfl rfl ?_
          obtain ⟨c1, h⟩ := bK_t h
          refine b_ifT (t := 253) tb_X8_putOn r_X8_putOn_184 rfl ((zLe_c _).symm.trans c1) ?_
          refine b_aln (pc' := 254) (a := .inr (.inr (.inl 11))) tb_X8_putOn r_X8_putOn_253 rfl rfl rfl ?_
          refine b_gr (pc' := 257) tb_X8_putOn r_X8_putOn_254 tF_11_9_5 rfl ?_
          refine b_il (pc' := 259) (a := .inl x1083) tb_X8_putOn r_X8_putOn_257 rfl rfl rfl ?_
          refine b_il (pc' := 261) (a := .inl x1084) tb_X8_putOn r_X8_putOn_259 rfl rfl rfl ?_
          obtain ⟨M1109, dM1109, cM1109, h⟩ := sK_in h
          refine b_is (pc' := 262) tb_X8_putOn r_X8_putOn_261 tA_14 dM1109 cM1109 rfl ?_
          refine b_aln (pc' := 263) (a := .inr (.inr (.inl 11))) tb_X8_putOn r_X8_putOn_262 rfl rfl rfl ?_
          refine b_il (pc' := 265) (a := .inl x1084) tb_X8_putOn r_X8_putOn_263 rfl rfl rfl ?_
          obtain ⟨v1111, M1110, ov1111, h⟩ := cI_in h
          refine b_vI (pc' := 268) tb_X8_putOn r_X8_putOn_265 tb_X8_end mo_X8_end (by decide) rfl rfl ov1111 (fun r hr => snd_X8_end hr) (by decide) rfl rfl rfl ?_
          refine b_st (pc' := 270) [(10, .inl v1111), (15, .inl x1083), (0, .inr (.inr (.inl 11))), (1, .inl a1), (4, .inl 0), (6, .inl 4294967295), (7, .inl v560), (8, .inl x1083), (9, .inl x563), (13, .inl 1), (14, .inl x1085)] tb_X8_putOn r_X8_putOn_268 rfl rfl rfl rfl ?_
          refine b_aln (pc' := 271) (a := .inr (.inr (.inl 11))) tb_X8_putOn r_X8_putOn_270 rfl rfl rfl ?_
          refine b_gr (pc' := 274) tb_X8_putOn r_X8_putOn_271 tF_11_9_6 rfl ?_
          refine b_il (pc' := 276) (a := .inl x1083) tb_X8_putOn r_X8_putOn_274 rfl rfl rfl ?_
          refine b_il (pc' := 278) (a := .inl v1111) tb_X8_putOn r_X8_putOn_276 rfl rfl rfl ?_
          refine b_aln (pc' := 279) (a := .inr (.inr (.inl 11))) tb_X8_putOn r_X8_putOn_278 rfl rfl rfl ?_
          refine b_gr (pc' := 282) tb_X8_putOn r_X8_putOn_279 tF_11_9_5 rfl ?_
          refine b_il (pc' := 284) (a := .inl x1083) tb_X8_putOn r_X8_putOn_282 rfl rfl rfl ?_
          obtain ⟨v1112, dv1112, cv1112, h⟩ := lK_in h
          refine b_ia (pc' := 285) tb_X8_putOn r_X8_putOn_284 tA_14 dv1112 cv1112 rfl ?_
          refine b_sub (pc' := 286) tb_X8_putOn r_X8_putOn_285 rfl ?_
          obtain ⟨M1113, dM1113, cM1113, h⟩ := sK_in h
          refine b_is (pc' := 287) tb_X8_putOn r_X8_putOn_286 tA_15 dM1113 cM1113 rfl ?_
          refine b_inc (pc' := 290) (v := x1083) (n := 1) [(8, .inl (oAdd x1083 1)), (10, .inl v1111), (15, .inl x1083), (0, .inr (.inr (.inl 11))), (1, .inl a1), (4, .inl 0), (6, .inl 4294967295), (7, .inl v560), (9, .inl x563), (13, .inl 1), (14, .inl x1085)] tb_X8_putOn r_X8_putOn_287 rfl rfl rfl rfl rfl ?_
          obtain ⟨v1114, ev1114, h⟩ := fK_v h
          rw [ev1114]
          refine b_inc (pc' := 293) (v := x1085) (n := 1) [(14, .inl (oAdd x1085 1)), (8, .inl v1114), (10, .inl v1111), (15, .inl x1083), (0, .inr (.inr (.inl 11))), (1, .inl a1), (4, .inl 0), (6, .inl 4294967295), (7, .inl v560), (9, .inl x563), (13, .inl 1)] tb_X8_putOn r_X8_putOn_290 rfl rfl rfl rfl rfl ?_
          obtain ⟨v1115, ev1115, h⟩ := fK_v h
          rw [ev1115]
          refine b_goto (pc' := 163) tb_X8_putOn r_X8_putOn_293 rfl ?_
          refine b_sub9 [(0, .inr (.inr (.inl 11))), (1, .inl a1), (4, .inl 0), (6, .inl 4294967295), (7, .inl v560), (8, .inl v1114), (9, .inl x563), (10, .inl v1111), (13, .inl 1), (14, .inl v1115)] ⟨rfl, rfl, rfl, rfl, rfl, rfl, rfl, rfl, rfl, rfl, trivial⟩ ?_
          exact hj163 _ _ _ _ h
      refine b_sub9 [(0, .inr (.inr (.inl 11))), (1, .inl a1), (4, .inl 0), (6, .inl 4294967295), (7, .inl v560), (8, .inl x562), (9, .inl x563), (10, .inl v1082), (13, .inl 1), (14, .inl 0)] ⟨rfl, rfl, rfl, rfl, rfl, rfl, rfl, rfl, rfl, rfl, trivial⟩ ?_
      exact hj163 _ _ _ _ h
  refine b_sub9 [(0, .inr (.inr (.inl 11))), (1, .inl a1), (4, .inl 0), (6, .inl 4294967295), (7, .inl v560), (8, .inl 0), (9, .inl a2)] ⟨rfl, rfl, rfl, rfl, rfl, rfl, rfl, trivial⟩ ?_
  exact hj70 _ _ _ h
noncomputable def m_X2_partAt (a1 a2 : Nat) (M0 : Nat) : RN :=
  some (Nat.add (oAdd 620 (oMul (oAdd (oMul a1 4) a2) 20)) 2, M0)
set_option maxRecDepth 100000 in
theorem snd_X2_partAt {l : Launch} {g : GV} {D : va_G} {sl q : Nat} {a1 a2 M0 : Nat} {r : Nat × Nat} (h : m_X2_partAt a1 a2 M0 = some r) : SN l g D sl 9 0 q q 39 0 [(0, .inr (.inr (.inl 17))), (1, .inl a1), (2, .inl a2)] [] M0 (PR r) := by
  unfold m_X2_partAt at h
  refine b_si (pc' := 3) (620) tb_X2_partAt r_X2_partAt_0 rfl rfl rfl ?_
  refine b_iln (pc' := 4) (a := .inl a1) tb_X2_partAt r_X2_partAt_3 rfl rfl rfl ?_
  refine b_ic (pc' := 5) (4) tb_X2_partAt r_X2_partAt_4 rfl rfl ?_
  refine b_mul (pc' := 6) tb_X2_partAt r_X2_partAt_5 rfl ?_
  refine b_iln (pc' := 7) (a := .inl a2) tb_X2_partAt r_X2_partAt_6 rfl rfl rfl ?_
  refine b_add (pc' := 8) tb_X2_partAt r_X2_partAt_7 rfl ?_
  refine b_bi (pc' := 10) (20) tb_X2_partAt r_X2_partAt_8 rfl rfl rfl ?_
  refine b_mul (pc' := 11) tb_X2_partAt r_X2_partAt_10 rfl ?_
  refine b_add (pc' := 12) tb_X2_partAt r_X2_partAt_11 rfl ?_
  exact b_ri tb_X2_partAt r_X2_partAt_12 rfl (sj h).symm
noncomputable def m_X2_canFit (a1 a2 : Nat) (M0 : Nat) : RN :=
  cI (m_X2_partAt a1 0 M0) (fun v2 M1 => lK2 M1 5731 660 7500 8932 v2 (fun v3 => cI (m_X10_operatorIn v3 M1) (fun v5 M4 => lK M4 7884 2 v5 (fun v6 => bK (nEq v6 4294967295) (lK2 M4 5731 660 7500 8932 a2 (fun v24 => bK (nLt v24 32) none (cI (m_X10_operatorIn v24 M4) (fun v26 M25 => bK (nEq v26 v5) (lK M25 7886 2 v5 (fun v34 => bK (zEq v34) (fK (oAdd v2 1) (fun v38 => fK (oAdd a2 1) (fun v39 => dvK Nat.mod v3 8 (fun v40 => bK (nGe 0 v40) (rbK 1 M25) none)))) none)) none)))) none))))
set_option maxRecDepth 100000 in
theorem snd_X2_canFit {l : Launch} {g : GV} {D : va_G} {sl q : Nat} {a1 a2 M0 : Nat} {r : Nat × Nat} (h : m_X2_canFit a1 a2 M0 = some r) : SN l g D sl 10 0 q q 26 0 [(0, .inr (.inr (.inl 17))), (1, .inl a1), (2, .inl a2)] [] M0 (PR r) := by
  unfold m_X2_canFit at h
  refine b_aln (pc' := 1) (a := .inr (.inr (.inl 17))) tb_X2_canFit r_X2_canFit_0 rfl rfl rfl ?_
  refine b_iln (pc' := 2) (a := .inl a1) tb_X2_canFit r_X2_canFit_1 rfl rfl rfl ?_
  refine b_ic (pc' := 3) (0) tb_X2_canFit r_X2_canFit_2 rfl rfl ?_
  obtain ⟨v2, M1, ov2, h⟩ := cI_in h
  refine b_vI (pc' := 6) tb_X2_canFit r_X2_canFit_3 tb_X2_partAt mo_X2_partAt (by decide) rfl rfl ov2 (fun r hr => snd_X2_partAt hr) (by decide) rfl rfl rfl ?_
  refine b_stn (pc' := 7) [(3, .inl v2), (0, .inr (.inr (.inl 17))), (1, .inl a1), (2, .inl a2)] tb_X2_canFit r_X2_canFit_6 rfl rfl rfl rfl ?_
  refine b_aln (pc' := 8) (a := .inr (.inr (.inl 17))) tb_X2_canFit r_X2_canFit_7 rfl rfl rfl ?_
  refine b_gr (pc' := 11) tb_X2_canFit r_X2_canFit_8 tF_17_3_0 rfl ?_
  refine b_gr (pc' := 14) tb_X2_canFit r_X2_canFit_11 tF_11_9_1 rfl ?_
  refine b_iln (pc' := 15) (a := .inl v2) tb_X2_canFit r_X2_canFit_14 rfl rfl rfl ?_
  obtain ⟨v3, _, dv3, cv3, h⟩ := lK2_in h
  refine b_ia2 (pc' := 16) tb_X2_canFit r_X2_canFit_15 tA_12 dv3 cv3 rfl ?_
  refine b_st (pc' := 18) [(4, .inl v3), (3, .inl v2), (0, .inr (.inr (.inl 17))), (1, .inl a1), (2, .inl a2)] tb_X2_canFit r_X2_canFit_16 rfl rfl rfl rfl ?_
  refine b_il (pc' := 20) (a := .inl v3) tb_X2_canFit r_X2_canFit_18 rfl rfl rfl ?_
  obtain ⟨v5, M4, ov5, h⟩ := cI_in h
  refine b_sI (pc' := 23) tb_X2_canFit r_X2_canFit_20 tb_X10_operatorIn mo_X10_operatorIn (by decide) rfl rfl ov5 (fun r hr => snd_X10_operatorIn hr) (by decide) rfl rfl rfl ?_
  refine b_st (pc' := 25) [(5, .inl v5), (4, .inl v3), (3, .inl v2), (0, .inr (.inr (.inl 17))), (1, .inl a1), (2, .inl a2)] tb_X2_canFit r_X2_canFit_23 rfl rfl rfl rfl ?_
  refine b_aln (pc' := 26) (a := .inr (.inr (.inl 17))) tb_X2_canFit r_X2_canFit_25 rfl rfl rfl ?_
  refine b_gr (pc' := 29) tb_X2_canFit r_X2_canFit_26 tF_17_3_1 rfl ?_
  refine b_gr (pc' := 32) tb_X2_canFit r_X2_canFit_29 tF_1_8_6 rfl ?_
  refine b_il (pc' := 34) (a := .inl v5) tb_X2_canFit r_X2_canFit_32 rfl rfl rfl ?_
  obtain ⟨v6, dv6, cv6, h⟩ := lK_in h
  refine b_ia (pc' := 35) tb_X2_canFit r_X2_canFit_34 tA_6 dv6 cv6 rfl ?_
  refine b_ic (pc' := 36) (4294967295) tb_X2_canFit r_X2_canFit_35 rfl rfl ?_
  obtain ⟨c1, h⟩ := bK_t h
  refine b_icT (t := 41) tb_X2_canFit r_X2_canFit_36 rfl ((nEq_c _ _).symm.trans c1) ?_
  refine b_aln (pc' := 42) (a := .inr (.inr (.inl 17))) tb_X2_canFit r_X2_canFit_41 rfl rfl rfl ?_
  refine b_gr (pc' := 45) tb_X2_canFit r_X2_canFit_42 tF_17_3_0 rfl ?_
  refine b_gr (pc' := 48) tb_X2_canFit r_X2_canFit_45 tF_11_9_1 rfl ?_
  refine b_iln (pc' := 49) (a := .inl a2) tb_X2_canFit r_X2_canFit_48 rfl rfl rfl ?_
  obtain ⟨v24, _, dv24, cv24, h⟩ := lK2_in h
  refine b_ia2 (pc' := 50) tb_X2_canFit r_X2_canFit_49 tA_12 dv24 cv24 rfl ?_
  refine b_st (pc' := 52) [(6, .inl v24), (5, .inl v5), (4, .inl v3), (3, .inl v2), (0, .inr (.inr (.inl 17))), (1, .inl a1), (2, .inl a2)] tb_X2_canFit r_X2_canFit_50 rfl rfl rfl rfl ?_
  refine b_il (pc' := 54) (a := .inl v24) tb_X2_canFit r_X2_canFit_52 rfl rfl rfl ?_
  refine b_bi (pc' := 56) (32) tb_X2_canFit r_X2_canFit_54 rfl rfl rfl ?_
  obtain ⟨c1, h⟩ := bK_f h
  refine b_icF (t := 69) (pc' := 59) tb_X2_canFit r_X2_canFit_56 rfl ((nLt_c _ _).symm.trans c1) rfl ?_
  refine b_il (pc' := 61) (a := .inl v24) tb_X2_canFit r_X2_canFit_59 rfl rfl rfl ?_
  obtain ⟨v26, M25, ov26, h⟩ := cI_in h
  refine b_sI (pc' := 64) tb_X2_canFit r_X2_canFit_61 tb_X10_operatorIn mo_X10_operatorIn (by decide) rfl rfl ov26 (fun r hr => snd_X10_operatorIn hr) (by decide) rfl rfl rfl ?_
  refine b_il (pc' := 66) (a := .inl v5) tb_X2_canFit r_X2_canFit_64 rfl rfl rfl ?_
  obtain ⟨c1, h⟩ := bK_t h
  refine b_icT (t := 71) tb_X2_canFit r_X2_canFit_66 rfl ((nEq_c _ _).symm.trans c1) ?_
  refine b_aln (pc' := 72) (a := .inr (.inr (.inl 17))) tb_X2_canFit r_X2_canFit_71 rfl rfl rfl ?_
  refine b_gr (pc' := 75) tb_X2_canFit r_X2_canFit_72 tF_17_3_1 rfl ?_
  refine b_gr (pc' := 78) tb_X2_canFit r_X2_canFit_75 tF_1_8_5 rfl ?_
  refine b_il (pc' := 80) (a := .inl v5) tb_X2_canFit r_X2_canFit_78 rfl rfl rfl ?_
  obtain ⟨v34, dv34, cv34, h⟩ := lK_in h
  refine b_ia (pc' := 81) tb_X2_canFit r_X2_canFit_80 tA_5 dv34 cv34 rfl ?_
  obtain ⟨c1, h⟩ := bK_t h
  refine b_ifT (t := 86) tb_X2_canFit r_X2_canFit_81 rfl ((zEq_c _).symm.trans c1) ?_
  refine b_iln (pc' := 87) (a := .inl v2) tb_X2_canFit r_X2_canFit_86 rfl rfl rfl ?_
  refine b_ic (pc' := 88) (1) tb_X2_canFit r_X2_canFit_87 rfl rfl ?_
  refine b_add (pc' := 89) tb_X2_canFit r_X2_canFit_88 rfl ?_
  obtain ⟨v38, ev38, h⟩ := fK_v h
  rw [ev38]
  refine b_st (pc' := 91) [(7, .inl v38), (6, .inl v24), (5, .inl v5), (4, .inl v3), (3, .inl v2), (0, .inr (.inr (.inl 17))), (1, .inl a1), (2, .inl a2)] tb_X2_canFit r_X2_canFit_89 rfl rfl rfl rfl ?_
  refine b_iln (pc' := 92) (a := .inl a2) tb_X2_canFit r_X2_canFit_91 rfl rfl rfl ?_
  refine b_ic (pc' := 93) (1) tb_X2_canFit r_X2_canFit_92 rfl rfl ?_
  refine b_add (pc' := 94) tb_X2_canFit r_X2_canFit_93 rfl ?_
  obtain ⟨v39, ev39, h⟩ := fK_v h
  rw [ev39]
  refine b_st (pc' := 96) [(8, .inl v39), (7, .inl v38), (6, .inl v24), (5, .inl v5), (4, .inl v3), (3, .inl v2), (0, .inr (.inr (.inl 17))), (1, .inl a1), (2, .inl a2)] tb_X2_canFit r_X2_canFit_94 rfl rfl rfl rfl ?_
  refine b_ic (pc' := 97) (0) tb_X2_canFit r_X2_canFit_96 rfl rfl ?_
  refine b_st (pc' := 99) [(9, .inl 0), (8, .inl v39), (7, .inl v38), (6, .inl v24), (5, .inl v5), (4, .inl v3), (3, .inl v2), (0, .inr (.inr (.inl 17))), (1, .inl a1), (2, .inl a2)] tb_X2_canFit r_X2_canFit_97 rfl rfl rfl rfl ?_
  refine b_il (pc' := 101) (a := .inl 0) tb_X2_canFit r_X2_canFit_99 rfl rfl rfl ?_
  refine b_il (pc' := 103) (a := .inl v3) tb_X2_canFit r_X2_canFit_101 rfl rfl rfl ?_
  refine b_bi (pc' := 105) (8) tb_X2_canFit r_X2_canFit_103 rfl rfl rfl ?_
  obtain ⟨v40, c1, c2, c3, ev40, h⟩ := dvK_in h
  refine b_rem (pc' := 106) tb_X2_canFit r_X2_canFit_105 c1 c2 c3 ev40 rfl ?_
  obtain ⟨c1, h⟩ := bK_t h
  refine b_icT (t := 166) tb_X2_canFit r_X2_canFit_106 rfl ((nGe_c _ _).symm.trans c1) ?_
  refine b_ic (pc' := 167) (1) tb_X2_canFit r_X2_canFit_166 rfl rfl ?_
  obtain ⟨c1, h⟩ := rbK_in h
  exact b_rb tb_X2_canFit r_X2_canFit_167 rfl c1 h
noncomputable def m_X4_add (a1 a2 a3 a4 : Nat) (M0 : Nat) : RN :=
  rK M0 7893 (fun v1 => bK (nLt v1 256) (rK M0 7893 (fun v17 => sK M0 7879 1 v17 a1 (fun M18 => rK M18 7893 (fun v19 => sK M18 7847 1 v19 a2 (fun M20 => rK M20 7893 (fun v21 => lK2 M20 5731 660 7500 8932 a1 (fun v22 => dvK Nat.div v22 8 (fun v23 => sK M20 7882 1 v21 (oSub v23 4) (fun M24 => rK M24 7893 (fun v25 => sK M24 7848 1 v25 a3 (fun M26 => rK M26 7893 (fun v27 => sK M26 7880 1 v27 a4 (fun M28 => rK M28 7893 (fun v29 => pK M28 7893 (oAdd v29 1) (fun M30 => rK M30 7893 (fun v31 => some (Nat.add (oSub v31 1) 2, M30))))))))))))))))) none)
set_option maxRecDepth 100000 in
theorem snd_X4_add {l : Launch} {g : GV} {D : va_G} {sl q : Nat} {a1 a2 a3 a4 M0 : Nat} {r : Nat × Nat} (h : m_X4_add a1 a2 a3 a4 M0 = some r) : SN l g D sl 9 0 q q 31 0 [(0, .inr (.inr (.inl 28))), (1, .inl a1), (2, .inl a2), (3, .inl a3), (4, .inl a4)] [] M0 (PR r) := by
  unfold m_X4_add at h
  refine b_aln (pc' := 1) (a := .inr (.inr (.inl 28))) tb_X4_add r_X4_add_0 rfl rfl rfl ?_
  obtain ⟨v1, cv1, h⟩ := rK_in h
  refine b_gi (pc' := 4) tb_X4_add r_X4_add_1 tF_28_5_2 cv1 rfl ?_
  refine b_si (pc' := 7) (256) tb_X4_add r_X4_add_4 rfl rfl rfl ?_
  obtain ⟨c1, h⟩ := bK_t h
  refine b_icT (t := 12) tb_X4_add r_X4_add_7 rfl ((nLt_c _ _).symm.trans c1) ?_
  refine b_aln (pc' := 13) (a := .inr (.inr (.inl 28))) tb_X4_add r_X4_add_12 rfl rfl rfl ?_
  refine b_gr (pc' := 16) tb_X4_add r_X4_add_13 tF_28_5_3 rfl ?_
  refine b_aln (pc' := 17) (a := .inr (.inr (.inl 28))) tb_X4_add r_X4_add_16 rfl rfl rfl ?_
  obtain ⟨v17, cv17, h⟩ := rK_in h
  refine b_gi (pc' := 20) tb_X4_add r_X4_add_17 tF_28_5_2 cv17 rfl ?_
  refine b_iln (pc' := 21) (a := .inl a1) tb_X4_add r_X4_add_20 rfl rfl rfl ?_
  obtain ⟨M18, dM18, cM18, h⟩ := sK_in h
  refine b_is (pc' := 22) tb_X4_add r_X4_add_21 tA_29 dM18 cM18 rfl ?_
  refine b_aln (pc' := 23) (a := .inr (.inr (.inl 28))) tb_X4_add r_X4_add_22 rfl rfl rfl ?_
  refine b_gr (pc' := 26) tb_X4_add r_X4_add_23 tF_28_5_4 rfl ?_
  refine b_aln (pc' := 27) (a := .inr (.inr (.inl 28))) tb_X4_add r_X4_add_26 rfl rfl rfl ?_
  obtain ⟨v19, cv19, h⟩ := rK_in h
  refine b_gi (pc' := 30) tb_X4_add r_X4_add_27 tF_28_5_2 cv19 rfl ?_
  refine b_iln (pc' := 31) (a := .inl a2) tb_X4_add r_X4_add_30 rfl rfl rfl ?_
  obtain ⟨M20, dM20, cM20, h⟩ := sK_in h
  refine b_is (pc' := 32) tb_X4_add r_X4_add_31 tA_30 dM20 cM20 rfl ?_
  refine b_aln (pc' := 33) (a := .inr (.inr (.inl 28))) tb_X4_add r_X4_add_32 rfl rfl rfl ?_
  refine b_gr (pc' := 36) tb_X4_add r_X4_add_33 tF_28_5_5 rfl ?_
  refine b_aln (pc' := 37) (a := .inr (.inr (.inl 28))) tb_X4_add r_X4_add_36 rfl rfl rfl ?_
  obtain ⟨v21, cv21, h⟩ := rK_in h
  refine b_gi (pc' := 40) tb_X4_add r_X4_add_37 tF_28_5_2 cv21 rfl ?_
  refine b_aln (pc' := 41) (a := .inr (.inr (.inl 28))) tb_X4_add r_X4_add_40 rfl rfl rfl ?_
  refine b_gr (pc' := 44) tb_X4_add r_X4_add_41 tF_28_5_0 rfl ?_
  refine b_gr (pc' := 47) tb_X4_add r_X4_add_44 tF_11_9_1 rfl ?_
  refine b_iln (pc' := 48) (a := .inl a1) tb_X4_add r_X4_add_47 rfl rfl rfl ?_
  obtain ⟨v22, _, dv22, cv22, h⟩ := lK2_in h
  refine b_ia2 (pc' := 49) tb_X4_add r_X4_add_48 tA_12 dv22 cv22 rfl ?_
  refine b_bi (pc' := 51) (8) tb_X4_add r_X4_add_49 rfl rfl rfl ?_
  obtain ⟨v23, c1, c2, c3, ev23, h⟩ := dvK_in h
  refine b_div (pc' := 52) tb_X4_add r_X4_add_51 c1 c2 c3 ev23 rfl ?_
  refine b_ic (pc' := 53) (4) tb_X4_add r_X4_add_52 rfl rfl ?_
  refine b_sub (pc' := 54) tb_X4_add r_X4_add_53 rfl ?_
  obtain ⟨M24, dM24, cM24, h⟩ := sK_in h
  refine b_is (pc' := 55) tb_X4_add r_X4_add_54 tA_31 dM24 cM24 rfl ?_
  refine b_aln (pc' := 56) (a := .inr (.inr (.inl 28))) tb_X4_add r_X4_add_55 rfl rfl rfl ?_
  refine b_gr (pc' := 59) tb_X4_add r_X4_add_56 tF_28_5_6 rfl ?_
  refine b_aln (pc' := 60) (a := .inr (.inr (.inl 28))) tb_X4_add r_X4_add_59 rfl rfl rfl ?_
  obtain ⟨v25, cv25, h⟩ := rK_in h
  refine b_gi (pc' := 63) tb_X4_add r_X4_add_60 tF_28_5_2 cv25 rfl ?_
  refine b_iln (pc' := 64) (a := .inl a3) tb_X4_add r_X4_add_63 rfl rfl rfl ?_
  obtain ⟨M26, dM26, cM26, h⟩ := sK_in h
  refine b_is (pc' := 65) tb_X4_add r_X4_add_64 tA_32 dM26 cM26 rfl ?_
  refine b_aln (pc' := 66) (a := .inr (.inr (.inl 28))) tb_X4_add r_X4_add_65 rfl rfl rfl ?_
  refine b_gr (pc' := 69) tb_X4_add r_X4_add_66 tF_28_5_7 rfl ?_
  refine b_aln (pc' := 70) (a := .inr (.inr (.inl 28))) tb_X4_add r_X4_add_69 rfl rfl rfl ?_
  obtain ⟨v27, cv27, h⟩ := rK_in h
  refine b_gi (pc' := 73) tb_X4_add r_X4_add_70 tF_28_5_2 cv27 rfl ?_
  refine b_il (pc' := 75) (a := .inl a4) tb_X4_add r_X4_add_73 rfl rfl rfl ?_
  obtain ⟨M28, dM28, cM28, h⟩ := sK_in h
  refine b_is (pc' := 76) tb_X4_add r_X4_add_75 tA_33 dM28 cM28 rfl ?_
  refine b_aln (pc' := 77) (a := .inr (.inr (.inl 28))) tb_X4_add r_X4_add_76 rfl rfl rfl ?_
  refine b_dup (pc' := 78) tb_X4_add r_X4_add_77 rfl rfl ?_
  obtain ⟨v29, cv29, h⟩ := rK_in h
  refine b_gi (pc' := 81) tb_X4_add r_X4_add_78 tF_28_5_2 cv29 rfl ?_
  refine b_ic (pc' := 82) (1) tb_X4_add r_X4_add_81 rfl rfl ?_
  refine b_add (pc' := 83) tb_X4_add r_X4_add_82 rfl ?_
  obtain ⟨M30, cM30, h⟩ := pK_in h
  refine b_pi (pc' := 86) tb_X4_add r_X4_add_83 rfl tF_28_5_2 cM30 rfl ?_
  refine b_aln (pc' := 87) (a := .inr (.inr (.inl 28))) tb_X4_add r_X4_add_86 rfl rfl rfl ?_
  obtain ⟨v31, cv31, h⟩ := rK_in h
  refine b_gi (pc' := 90) tb_X4_add r_X4_add_87 tF_28_5_2 cv31 rfl ?_
  refine b_ic (pc' := 91) (1) tb_X4_add r_X4_add_90 rfl rfl ?_
  refine b_sub (pc' := 92) tb_X4_add r_X4_add_91 rfl ?_
  exact b_ri tb_X4_add r_X4_add_92 rfl (sj h).symm
noncomputable def m_X4_collect (a1 : Nat) (M0 : Nat) : RN :=
  cI (m_X8_end a1 M0) (fun v2 M1 => pK M1 7893 0 (fun M3 => lp (fun _ _ => none) (fun (j16 : (Nat →  Nat → RN)) => fun (x4 : Nat) (M5 : Nat) => jn (fun (M6 : Nat) => some (1, M6)) (fun (j141 : ( Nat → RN)) => bK (nGe x4 v2) (j141 M5) (rK M5 7893 (fun v7 => bK (nGe v7 20) (j141 M5) (lK2 M5 5731 660 7500 8932 x4 (fun v8 => bK (nGe v8 32) (dvK Nat.mod v8 8 (fun v23 => fK (oAdd x4 1) (fun v24 => bK (nGe 0 v23) (rK M5 7893 (fun v31 => fK (oSub (oShl 1 v23) 1) (fun v32 => fK (oSub v24 x4) (fun v33 => cI (m_X4_add x4 v33 v31 v32 M5) (fun v35 M34 => fK (oAdd x4 1) (fun v36 => j16 v36 M34)))))) none))) none)))))) (fun (j16 : (Nat →  Nat → RN)) => j16 a1 M3)))
set_option maxRecDepth 100000 in
theorem snd_X4_collect {l : Launch} {g : GV} {D : va_G} {sl q : Nat} {a1 M0 : Nat} {r : Nat × Nat} (h : m_X4_collect a1 M0 = some r) : SN l g D sl 10 0 q q 25 0 [(0, .inr (.inr (.inl 28))), (1, .inl a1)] [] M0 (PR r) := by
  unfold m_X4_collect at h
  refine b_aln (pc' := 1) (a := .inr (.inr (.inl 28))) tb_X4_collect r_X4_collect_0 rfl rfl rfl ?_
  refine b_gr (pc' := 4) tb_X4_collect r_X4_collect_1 tF_28_5_0 rfl ?_
  refine b_iln (pc' := 5) (a := .inl a1) tb_X4_collect r_X4_collect_4 rfl rfl rfl ?_
  obtain ⟨v2, M1, ov2, h⟩ := cI_in h
  refine b_vI (pc' := 8) tb_X4_collect r_X4_collect_5 tb_X8_end mo_X8_end (by decide) rfl rfl ov2 (fun r hr => snd_X8_end hr) (by decide) rfl rfl rfl ?_
  refine b_stn (pc' := 9) [(2, .inl v2), (0, .inr (.inr (.inl 28))), (1, .inl a1)] tb_X4_collect r_X4_collect_8 rfl rfl rfl rfl ?_
  refine b_aln (pc' := 10) (a := .inr (.inr (.inl 28))) tb_X4_collect r_X4_collect_9 rfl rfl rfl ?_
  refine b_ic (pc' := 11) (0) tb_X4_collect r_X4_collect_10 rfl rfl ?_
  obtain ⟨M3, cM3, h⟩ := pK_in h
  refine b_pi (pc' := 14) tb_X4_collect r_X4_collect_11 rfl tF_28_5_2 cM3 rfl ?_
  refine b_iln (pc' := 15) (a := .inl a1) tb_X4_collect r_X4_collect_14 rfl rfl rfl ?_
  refine b_stn (pc' := 16) [(3, .inl a1), (2, .inl v2), (0, .inr (.inr (.inl 28))), (1, .inl a1)] tb_X4_collect r_X4_collect_15 rfl rfl rfl rfl ?_
  refine lp_in (R := fun (j16 : (Nat → Nat → RN)) => ∀ (x4 M5 : Nat), j16 x4 M5 = some r → SN l g D sl 10 0 q q 25 16 [(0, .inr (.inr (.inl 28))), (2, .inl v2), (3, .inl x4)] [] M5 (PR r)) h (fun _ _ h => by cases h) (fun j16 hj16 => ?_) (fun j16 hj16 h => ?_)
  · intro x4 M5 h
    refine b_iln (pc' := 17) (a := .inl x4) tb_X4_collect r_X4_collect_16 rfl rfl rfl ?_
    refine b_iln (pc' := 18) (a := .inl v2) tb_X4_collect r_X4_collect_17 rfl rfl rfl ?_
    refine jn_in (R := fun (j141 : ( Nat → RN)) => ∀ (M6 : Nat), j141 M6 = some r → SN l g D sl 10 0 q q 25 141 [] [] M6 (PR r)) h (fun M6 h => ?_) (fun j141 hj141 h => ?_)
    · skip
      exact b_vo tb_X4_collect r_X4_collect_141 (sj h).symm
    rcases bK_in h with ⟨c1, h⟩ | ⟨c1, h⟩
    · refine b_icT (t := 141) tb_X4_collect r_X4_collect_18 rfl ((nGe_c _ _).symm.trans c1) ?_
      refine b_sub9 [] trivial ?_
      exact hj141 _ h
    · refine b_icF (t := 141) (pc' := 21) tb_X4_collect r_X4_collect_18 rfl ((nGe_c _ _).symm.trans c1) rfl ?_
      refine b_aln (pc' := 22) (a := .inr (.inr (.inl 28))) tb_X4_collect r_X4_collect_21 rfl rfl rfl ?_
      obtain ⟨v7, cv7, h⟩ := rK_in h
      refine b_gi (pc' := 25) tb_X4_collect r_X4_collect_22 tF_28_5_2 cv7 rfl ?_
      refine b_bi (pc' := 27) (20) tb_X4_collect r_X4_collect_25 rfl rfl rfl ?_
      rcases bK_in h with ⟨c1, h⟩ | ⟨c1, h⟩
      · refine b_icT (t := 141) tb_X4_collect r_X4_collect_27 rfl ((nGe_c _ _).symm.trans c1) ?_
        refine b_sub9 [] trivial ?_
        exact hj141 _ h
      · refine b_icF (t := 141) (pc' := 30) tb_X4_collect r_X4_collect_27 rfl ((nGe_c _ _).symm.trans c1) rfl ?_
        refine b_aln (pc' := 31) (a := .inr (.inr (.inl 28))) tb_X4_collect r_X4_collect_30 rfl rfl rfl ?_
        refine b_gr (pc' := 34) tb_X4_collect r_X4_collect_31 tF_28_5_0 rfl ?_
        refine b_gr (pc' := 37) tb_X4_collect r_X4_collect_34 tF_11_9_1 rfl ?_
        refine b_iln (pc' := 38) (a := .inl x4) tb_X4_collect r_X4_collect_37 rfl rfl rfl ?_
        obtain ⟨v8, _, dv8, cv8, h⟩ := lK2_in h
        refine b_ia2 (pc' := 39) tb_X4_collect r_X4_collect_38 tA_12 dv8 cv8 rfl ?_
        refine b_st (pc' := 41) [(4, .inl v8), (0, .inr (.inr (.inl 28))), (2, .inl v2), (3, .inl x4)] tb_X4_collect r_X4_collect_39 rfl rfl rfl rfl ?_
        refine b_il (pc' := 43) (a := .inl v8) tb_X4_collect r_X4_collect_41 rfl rfl rfl ?_
        refine b_bi (pc' := 45) (32) tb_X4_collect r_X4_collect_43 rfl rfl rfl ?_
        obtain ⟨c1, h⟩ := bK_t h
        refine b_icT (t := 52) tb_X4_collect r_X4_collect_45 rfl ((nGe_c _ _).symm.trans c1) ?_
        refine b_il (pc' := 54) (a := .inl v8) tb_X4_collect r_X4_collect_52 rfl rfl rfl ?_
        refine b_bi (pc' := 56) (8) tb_X4_collect r_X4_collect_54 rfl rfl rfl ?_
        obtain ⟨v23, c1, c2, c3, ev23, h⟩ := dvK_in h
        refine b_rem (pc' := 57) tb_X4_collect r_X4_collect_56 c1 c2 c3 ev23 rfl ?_
        refine b_st (pc' := 59) [(5, .inl v23), (4, .inl v8), (0, .inr (.inr (.inl 28))), (2, .inl v2), (3, .inl x4)] tb_X4_collect r_X4_collect_57 rfl rfl rfl rfl ?_
        refine b_iln (pc' := 60) (a := .inl x4) tb_X4_collect r_X4_collect_59 rfl rfl rfl ?_
        refine b_ic (pc' := 61) (1) tb_X4_collect r_X4_collect_60 rfl rfl ?_
        refine b_add (pc' := 62) tb_X4_collect r_X4_collect_61 rfl ?_
        obtain ⟨v24, ev24, h⟩ := fK_v h
        rw [ev24]
        refine b_st (pc' := 64) [(6, .inl v24), (5, .inl v23), (4, .inl v8), (0, .inr (.inr (.inl 28))), (2, .inl v2), (3, .inl x4)] tb_X4_collect r_X4_collect_62 rfl rfl rfl rfl ?_
        refine b_ic (pc' := 65) (0) tb_X4_collect r_X4_collect_64 rfl rfl ?_
        refine b_st (pc' := 67) [(7, .inl 0), (6, .inl v24), (5, .inl v23), (4, .inl v8), (0, .inr (.inr (.inl 28))), (2, .inl v2), (3, .inl x4)] tb_X4_collect r_X4_collect_65 rfl rfl rfl rfl ?_
        refine b_il (pc' := 69) (a := .inl 0) tb_X4_collect r_X4_collect_67 rfl rfl rfl ?_
        refine b_il (pc' := 71) (a := .inl v23) tb_X4_collect r_X4_collect_69 rfl rfl rfl ?_
        obtain ⟨c1, h⟩ := bK_t h
        refine b_icT (t := 115) tb_X4_collect r_X4_collect_71 rfl ((nGe_c _ _).symm.trans c1) ?_
        refine b_aln (pc' := 116) (a := .inr (.inr (.inl 28))) tb_X4_collect r_X4_collect_115 rfl rfl rfl ?_
        refine b_iln (pc' := 117) (a := .inl x4) tb_X4_collect r_X4_collect_116 rfl rfl rfl ?_
        refine b_il (pc' := 119) (a := .inl v24) tb_X4_collect r_X4_collect_117 rfl rfl rfl ?_
        refine b_iln (pc' := 120) (a := .inl x4) tb_X4_collect r_X4_collect_119 rfl rfl rfl ?_
        refine b_sub (pc' := 121) tb_X4_collect r_X4_collect_120 rfl ?_
        refine b_aln (pc' := 122) (a := .inr (.inr (.inl 28))) tb_X4_collect r_X4_collect_121 rfl rfl rfl ?_
        obtain ⟨v31, cv31, h⟩ := rK_in h
        refine b_gi (pc' := 125) tb_X4_collect r_X4_collect_122 tF_28_5_2 cv31 rfl ?_
        refine b_ic (pc' := 126) (1) tb_X4_collect r_X4_collect_125 rfl rfl ?_
        refine b_il (pc' := 128) (a := .inl v23) tb_X4_collect r_X4_collect_126 rfl rfl rfl ?_
        refine b_shl (pc' := 129) tb_X4_collect r_X4_collect_128 rfl ?_
        refine b_ic (pc' := 130) (1) tb_X4_collect r_X4_collect_129 rfl rfl ?_
        refine b_sub (pc' := 131) tb_X4_collect r_X4_collect_130 rfl ?_
        obtain ⟨v32, ev32, h⟩ := fK_v h
        rw [ev32]
        obtain ⟨v33, ev33, h⟩ := fK_v h
        rw [ev33]
        obtain ⟨v35, M34, ov35, h⟩ := cI_in h
        refine b_vI (pc' := 134) tb_X4_collect r_X4_collect_131 tb_X4_add mo_X4_add (by decide) rfl rfl ov35 (fun r hr => snd_X4_add hr) (by decide) rfl rfl rfl ?_
        refine b_pop (pc' := 135) tb_X4_collect r_X4_collect_134 rfl rfl ?_
        refine b_inc (pc' := 138) (v := x4) (n := 1) [(3, .inl (oAdd x4 1)), (7, .inl 0), (6, .inl v24), (5, .inl v23), (4, .inl v8), (0, .inr (.inr (.inl 28))), (2, .inl v2)] tb_X4_collect r_X4_collect_135 rfl rfl rfl rfl rfl ?_
        obtain ⟨v36, ev36, h⟩ := fK_v h
        rw [ev36]
        refine b_goto (pc' := 16) tb_X4_collect r_X4_collect_138 rfl ?_
        refine b_sub9 [(0, .inr (.inr (.inl 28))), (2, .inl v2), (3, .inl v36)] ⟨rfl, rfl, rfl, trivial⟩ ?_
        exact hj16 _ _ h
  refine b_sub9 [(0, .inr (.inr (.inl 28))), (2, .inl v2), (3, .inl a1)] ⟨rfl, rfl, rfl, trivial⟩ ?_
  exact hj16 _ _ h
noncomputable def m_X4_addParts (M0 : Nat) : RN :=
  rK M0 7893 (fun v1 => lp (fun _ _ => none) (fun (j7 : (Nat →  Nat → RN)) => fun (x2 : Nat) (M3 : Nat) => bK (nGe x2 v1) (some (1, M3)) (lK M3 7882 1 x2 (fun v4 => bK (zGe v4) (lK M3 7882 1 x2 (fun v18 => lK M3 7886 2 v18 (fun v19 => lK M3 7880 1 x2 (fun v20 => bK (nGe 1 v20) (lK M3 7880 1 x2 (fun v26 => dvK Nat.mod v26 32 (fun v27 => fK (oAdd (oMul x2 32) v27) (fun v28 => sK M3 7850 1 v28 x2 (fun M29 => fK (oAdd x2 1) (fun v30 => j7 v30 M29)))))) none)))) none))) (fun (j7 : (Nat →  Nat → RN)) => j7 0 M0))
set_option maxRecDepth 100000 in
theorem snd_X4_addParts {l : Launch} {g : GV} {D : va_G} {sl q : Nat} {M0 : Nat} {r : Nat × Nat} (h : m_X4_addParts M0 = some r) : SN l g D sl 9 0 q q 32 0 [(0, .inr (.inr (.inl 28)))] [] M0 (PR r) := by
  unfold m_X4_addParts at h
  refine b_aln (pc' := 1) (a := .inr (.inr (.inl 28))) tb_X4_addParts r_X4_addParts_0 rfl rfl rfl ?_
  obtain ⟨v1, cv1, h⟩ := rK_in h
  refine b_gi (pc' := 4) tb_X4_addParts r_X4_addParts_1 tF_28_5_2 cv1 rfl ?_
  refine b_stn (pc' := 5) [(1, .inl v1), (0, .inr (.inr (.inl 28)))] tb_X4_addParts r_X4_addParts_4 rfl rfl rfl rfl ?_
  refine b_ic (pc' := 6) (0) tb_X4_addParts r_X4_addParts_5 rfl rfl ?_
  refine b_stn (pc' := 7) [(2, .inl 0), (1, .inl v1), (0, .inr (.inr (.inl 28)))] tb_X4_addParts r_X4_addParts_6 rfl rfl rfl rfl ?_
  refine lp_in (R := fun (j7 : (Nat → Nat → RN)) => ∀ (x2 M3 : Nat), j7 x2 M3 = some r → SN l g D sl 9 0 q q 32 7 [(0, .inr (.inr (.inl 28))), (1, .inl v1), (2, .inl x2)] [] M3 (PR r)) h (fun _ _ h => by cases h) (fun j7 hj7 => ?_) (fun j7 hj7 h => ?_)
  · intro x2 M3 h
    refine b_iln (pc' := 8) (a := .inl x2) tb_X4_addParts r_X4_addParts_7 rfl rfl rfl ?_
    refine b_iln (pc' := 9) (a := .inl v1) tb_X4_addParts r_X4_addParts_8 rfl rfl rfl ?_
    rcases bK_in h with ⟨c1, h⟩ | ⟨c1, h⟩
    · refine b_icT (t := 229) tb_X4_addParts r_X4_addParts_9 rfl ((nGe_c _ _).symm.trans c1) ?_
      exact b_vo tb_X4_addParts r_X4_addParts_229 (sj h).symm
    · refine b_icF (t := 229) (pc' := 12) tb_X4_addParts r_X4_addParts_9 rfl ((nGe_c _ _).symm.trans c1) rfl ?_
      refine b_aln (pc' := 13) (a := .inr (.inr (.inl 28))) tb_X4_addParts r_X4_addParts_12 rfl rfl rfl ?_
      refine b_gr (pc' := 16) tb_X4_addParts r_X4_addParts_13 tF_28_5_5 rfl ?_
      refine b_iln (pc' := 17) (a := .inl x2) tb_X4_addParts r_X4_addParts_16 rfl rfl rfl ?_
      obtain ⟨v4, dv4, cv4, h⟩ := lK_in h
      refine b_ia (pc' := 18) tb_X4_addParts r_X4_addParts_17 tA_31 dv4 cv4 rfl ?_
      obtain ⟨c1, h⟩ := bK_t h
      refine b_ifT (t := 25) tb_X4_addParts r_X4_addParts_18 rfl ((zGe_c _).symm.trans c1) ?_
      refine b_aln (pc' := 26) (a := .inr (.inr (.inl 28))) tb_X4_addParts r_X4_addParts_25 rfl rfl rfl ?_
      refine b_gr (pc' := 29) tb_X4_addParts r_X4_addParts_26 tF_28_5_1 rfl ?_
      refine b_gr (pc' := 32) tb_X4_addParts r_X4_addParts_29 tF_1_8_5 rfl ?_
      refine b_aln (pc' := 33) (a := .inr (.inr (.inl 28))) tb_X4_addParts r_X4_addParts_32 rfl rfl rfl ?_
      refine b_gr (pc' := 36) tb_X4_addParts r_X4_addParts_33 tF_28_5_5 rfl ?_
      refine b_iln (pc' := 37) (a := .inl x2) tb_X4_addParts r_X4_addParts_36 rfl rfl rfl ?_
      obtain ⟨v18, dv18, cv18, h⟩ := lK_in h
      refine b_ia (pc' := 38) tb_X4_addParts r_X4_addParts_37 tA_31 dv18 cv18 rfl ?_
      obtain ⟨v19, dv19, cv19, h⟩ := lK_in h
      refine b_ia (pc' := 39) tb_X4_addParts r_X4_addParts_38 tA_5 dv19 cv19 rfl ?_
      refine b_stn (pc' := 40) [(3, .inl v19), (0, .inr (.inr (.inl 28))), (1, .inl v1), (2, .inl x2)] tb_X4_addParts r_X4_addParts_39 rfl rfl rfl rfl ?_
      refine b_ic (pc' := 41) (1) tb_X4_addParts r_X4_addParts_40 rfl rfl ?_
      refine b_st (pc' := 43) [(4, .inl 1), (3, .inl v19), (0, .inr (.inr (.inl 28))), (1, .inl v1), (2, .inl x2)] tb_X4_addParts r_X4_addParts_41 rfl rfl rfl rfl ?_
      refine b_il (pc' := 45) (a := .inl 1) tb_X4_addParts r_X4_addParts_43 rfl rfl rfl ?_
      refine b_aln (pc' := 46) (a := .inr (.inr (.inl 28))) tb_X4_addParts r_X4_addParts_45 rfl rfl rfl ?_
      refine b_gr (pc' := 49) tb_X4_addParts r_X4_addParts_46 tF_28_5_7 rfl ?_
      refine b_iln (pc' := 50) (a := .inl x2) tb_X4_addParts r_X4_addParts_49 rfl rfl rfl ?_
      obtain ⟨v20, dv20, cv20, h⟩ := lK_in h
      refine b_ia (pc' := 51) tb_X4_addParts r_X4_addParts_50 tA_33 dv20 cv20 rfl ?_
      obtain ⟨c1, h⟩ := bK_t h
      refine b_icT (t := 203) tb_X4_addParts r_X4_addParts_51 rfl ((nGe_c _ _).symm.trans c1) ?_
      refine b_aln (pc' := 204) (a := .inr (.inr (.inl 28))) tb_X4_addParts r_X4_addParts_203 rfl rfl rfl ?_
      refine b_gr (pc' := 207) tb_X4_addParts r_X4_addParts_204 tF_28_5_13 rfl ?_
      refine b_iln (pc' := 208) (a := .inl x2) tb_X4_addParts r_X4_addParts_207 rfl rfl rfl ?_
      refine b_bi (pc' := 210) (32) tb_X4_addParts r_X4_addParts_208 rfl rfl rfl ?_
      refine b_mul (pc' := 211) tb_X4_addParts r_X4_addParts_210 rfl ?_
      refine b_aln (pc' := 212) (a := .inr (.inr (.inl 28))) tb_X4_addParts r_X4_addParts_211 rfl rfl rfl ?_
      refine b_gr (pc' := 215) tb_X4_addParts r_X4_addParts_212 tF_28_5_7 rfl ?_
      refine b_iln (pc' := 216) (a := .inl x2) tb_X4_addParts r_X4_addParts_215 rfl rfl rfl ?_
      obtain ⟨v26, dv26, cv26, h⟩ := lK_in h
      refine b_ia (pc' := 217) tb_X4_addParts r_X4_addParts_216 tA_33 dv26 cv26 rfl ?_
      refine b_bi (pc' := 219) (32) tb_X4_addParts r_X4_addParts_217 rfl rfl rfl ?_
      obtain ⟨v27, c1, c2, c3, ev27, h⟩ := dvK_in h
      refine b_rem (pc' := 220) tb_X4_addParts r_X4_addParts_219 c1 c2 c3 ev27 rfl ?_
      refine b_add (pc' := 221) tb_X4_addParts r_X4_addParts_220 rfl ?_
      refine b_iln (pc' := 222) (a := .inl x2) tb_X4_addParts r_X4_addParts_221 rfl rfl rfl ?_
      obtain ⟨v28, ev28, h⟩ := fK_v h
      rw [ev28]
      obtain ⟨M29, dM29, cM29, h⟩ := sK_in h
      refine b_is (pc' := 223) tb_X4_addParts r_X4_addParts_222 tA_38 dM29 cM29 rfl ?_
      refine b_inc (pc' := 226) (v := x2) (n := 1) [(2, .inl (oAdd x2 1)), (4, .inl 1), (3, .inl v19), (0, .inr (.inr (.inl 28))), (1, .inl v1)] tb_X4_addParts r_X4_addParts_223 rfl rfl rfl rfl rfl ?_
      obtain ⟨v30, ev30, h⟩ := fK_v h
      rw [ev30]
      refine b_goto (pc' := 7) tb_X4_addParts r_X4_addParts_226 rfl ?_
      refine b_sub9 [(0, .inr (.inr (.inl 28))), (1, .inl v1), (2, .inl v30)] ⟨rfl, rfl, rfl, trivial⟩ ?_
      exact hj7 _ _ h
  refine b_sub9 [(0, .inr (.inr (.inl 28))), (1, .inl v1), (2, .inl 0)] ⟨rfl, rfl, rfl, trivial⟩ ?_
  exact hj7 _ _ h
