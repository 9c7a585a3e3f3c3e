/-! the trees of the methods, and what they say of the machine -/
theorem tA_12 : tabA LT 12 0 27500 281 780 7500 7656 = true := by decide +kernel
theorem tA_13 : tabA LT 13 0 1280 1217 3 1280 1280 = true := by decide +kernel
theorem tA_14 : tabA LT 14 0 5 1220 5 5 5 = true := by decide +kernel
theorem tA_15 : tabA LT 15 0 5 1225 5 5 5 = true := by decide +kernel
theorem tA_16 : tabA LT 16 0 20 1230 20 20 20 = true := by decide +kernel
theorem tA_18 : tabA LT 18 1 20 1252 2 20 20 = true := by decide +kernel
theorem tA_2 : tabA LT 2 0 9 4 9 9 9 = true := by decide +kernel
theorem tA_20 : tabA LT 20 0 256 1259 32 256 256 = true := by decide +kernel
theorem tA_21 : tabA LT 21 0 20 1291 20 20 20 = true := by decide +kernel
theorem tA_22 : tabA LT 22 0 64 1311 7 64 64 = true := by decide +kernel
theorem tA_23 : tabA LT 23 0 64 1318 7 64 64 = true := by decide +kernel
theorem tA_24 : tabA LT 24 0 64 1325 5 64 64 = true := by decide +kernel
theorem tA_25 : tabA LT 25 0 64 1330 7 64 64 = true := by decide +kernel
theorem tA_26 : tabA LT 26 0 64 1337 5 64 64 = true := by decide +kernel
theorem tA_27 : tabA LT 27 0 64 1342 7 64 64 = true := by decide +kernel
theorem tA_29 : tabA LT 29 0 256 1352 33 256 256 = true := by decide +kernel
theorem tA_3 : tabA LT 3 0 10 13 3 10 10 = true := by decide +kernel
theorem tA_30 : tabA LT 30 0 256 1385 33 256 256 = true := by decide +kernel
theorem tA_31 : tabA LT 31 0 256 1418 33 256 256 = true := by decide +kernel
theorem tA_32 : tabA LT 32 0 256 1451 33 256 256 = true := by decide +kernel
theorem tA_33 : tabA LT 33 0 256 1484 33 256 256 = true := by decide +kernel
theorem tA_34 : tabA LT 34 0 256 1517 33 256 256 = true := by decide +kernel
theorem tA_35 : tabA LT 35 0 256 1550 18 256 256 = true := by decide +kernel
theorem tA_36 : tabA LT 36 0 256 1568 32 256 256 = true := by decide +kernel
theorem tA_37 : tabA LT 37 0 100 1600 61 100 100 = true := by decide +kernel
theorem tA_38 : tabA LT 38 0 640 1661 417 640 640 = true := by decide +kernel
theorem tA_39 : tabA LT 39 0 16 2078 12 16 16 = true := by decide +kernel
theorem tA_4 : tabA LT 4 0 16 16 12 16 16 = true := by decide +kernel
theorem tA_41 : tabA LT 41 0 1240 2092 11 1240 1240 = true := by decide +kernel
theorem tA_42 : tabA LT 42 0 1240 2103 11 1240 1240 = true := by decide +kernel
theorem tA_43 : tabA LT 43 0 1240 2114 11 1240 1240 = true := by decide +kernel
theorem tA_44 : tabA LT 44 0 1240 2125 11 1240 1240 = true := by decide +kernel
theorem tA_45 : tabA LT 45 0 1240 2136 11 1240 1240 = true := by decide +kernel
theorem tA_5 : tabA LT 5 0 16 28 12 16 16 = true := by decide +kernel
theorem tA_6 : tabA LT 6 0 16 40 12 16 16 = true := by decide +kernel
theorem tA_7 : tabA LT 7 0 16 52 12 16 16 = true := by decide +kernel
theorem tA_8 : tabA LT 8 0 192 64 136 192 192 = true := by decide +kernel
theorem tF_0_10_0 : tabF LT 0 10 0 = some (some (.inr 1)) := rfl
theorem tF_0_10_1 : tabF LT 0 10 1 = some (some (.inr 11)) := rfl
theorem tF_0_10_2 : tabF LT 0 10 2 = some (some (.inr 17)) := rfl
theorem tF_0_10_3 : tabF LT 0 10 3 = some (some (.inr 19)) := rfl
theorem tF_0_10_4 : tabF LT 0 10 4 = some (some (.inr 40)) := rfl
theorem tF_0_10_8 : tabF LT 0 10 8 = some (some (.inl 0)) := rfl
theorem tF_11_8_0 : tabF LT 11 8 0 = some (some (.inr 1)) := rfl
theorem tF_11_8_1 : tabF LT 11 8 1 = some (some (.inr 12)) := rfl
theorem tF_11_8_10 : tabF LT 11 8 10 = some (some (.inl 280)) := rfl
theorem tF_11_8_2 : tabF LT 11 8 2 = some (some (.inl 276)) := rfl
theorem tF_11_8_3 : tabF LT 11 8 3 = some (some (.inr 13)) := rfl
theorem tF_11_8_4 : tabF LT 11 8 4 = some (some (.inl 277)) := rfl
theorem tF_11_8_5 : tabF LT 11 8 5 = some (some (.inr 14)) := rfl
theorem tF_11_8_6 : tabF LT 11 8 6 = some (some (.inr 15)) := rfl
theorem tF_11_8_7 : tabF LT 11 8 7 = some (some (.inr 16)) := rfl
theorem tF_11_8_8 : tabF LT 11 8 8 = some (some (.inl 278)) := rfl
theorem tF_17_2_0 : tabF LT 17 2 0 = some (some (.inr 11)) := rfl
theorem tF_17_2_1 : tabF LT 17 2 1 = some (some (.inr 1)) := rfl
theorem tF_17_2_2 : tabF LT 17 2 2 = some (some (.inl 1250)) := rfl
theorem tF_17_2_4 : tabF LT 17 2 4 = some (some (.inr 18)) := rfl
theorem tF_19_3_0 : tabF LT 19 3 0 = some (some (.inr 11)) := rfl
theorem tF_19_3_1 : tabF LT 19 3 1 = some (some (.inr 1)) := rfl
theorem tF_19_3_10 : tabF LT 19 3 10 = some (some (.inr 26)) := rfl
theorem tF_19_3_11 : tabF LT 19 3 11 = some (some (.inr 27)) := rfl
theorem tF_19_3_12 : tabF LT 19 3 12 = some (some (.inl 1255)) := rfl
theorem tF_19_3_13 : tabF LT 19 3 13 = some (some (.inl 1256)) := rfl
theorem tF_19_3_14 : tabF LT 19 3 14 = some (some (.inl 1257)) := rfl
theorem tF_19_3_15 : tabF LT 19 3 15 = some (some (.inl 1258)) := rfl
theorem tF_19_3_2 : tabF LT 19 3 2 = some (some (.inr 28)) := rfl
theorem tF_19_3_3 : tabF LT 19 3 3 = some (some (.inr 20)) := rfl
theorem tF_19_3_4 : tabF LT 19 3 4 = some (some (.inr 21)) := rfl
theorem tF_19_3_5 : tabF LT 19 3 5 = some (some (.inl 1254)) := rfl
theorem tF_19_3_6 : tabF LT 19 3 6 = some (some (.inr 22)) := rfl
theorem tF_19_3_7 : tabF LT 19 3 7 = some (some (.inr 23)) := rfl
theorem tF_19_3_8 : tabF LT 19 3 8 = some (some (.inr 24)) := rfl
theorem tF_19_3_9 : tabF LT 19 3 9 = some (some (.inr 25)) := rfl
theorem tF_1_7_1 : tabF LT 1 7 1 = some (some (.inl 3)) := rfl
theorem tF_1_7_2 : tabF LT 1 7 2 = some (some (.inr 2)) := rfl
theorem tF_1_7_3 : tabF LT 1 7 3 = some (some (.inr 3)) := rfl
theorem tF_1_7_4 : tabF LT 1 7 4 = some (some (.inr 4)) := rfl
theorem tF_1_7_5 : tabF LT 1 7 5 = some (some (.inr 5)) := rfl
theorem tF_1_7_6 : tabF LT 1 7 6 = some (some (.inr 6)) := rfl
theorem tF_1_7_7 : tabF LT 1 7 7 = some (some (.inr 7)) := rfl
theorem tF_1_7_8 : tabF LT 1 7 8 = some (some (.inr 8)) := rfl
theorem tF_28_4_0 : tabF LT 28 4 0 = some (some (.inr 11)) := rfl
theorem tF_28_4_1 : tabF LT 28 4 1 = some (some (.inr 1)) := rfl
theorem tF_28_4_10 : tabF LT 28 4 10 = some (some (.inr 35)) := rfl
theorem tF_28_4_11 : tabF LT 28 4 11 = some (some (.inr 36)) := rfl
theorem tF_28_4_12 : tabF LT 28 4 12 = some (some (.inr 37)) := rfl
theorem tF_28_4_13 : tabF LT 28 4 13 = some (some (.inr 38)) := rfl
theorem tF_28_4_14 : tabF LT 28 4 14 = some (some (.inr 39)) := rfl
theorem tF_28_4_15 : tabF LT 28 4 15 = some (some (.inl 1351)) := rfl
theorem tF_28_4_2 : tabF LT 28 4 2 = some (some (.inl 1349)) := rfl
theorem tF_28_4_3 : tabF LT 28 4 3 = some (some (.inr 29)) := rfl
theorem tF_28_4_4 : tabF LT 28 4 4 = some (some (.inr 30)) := rfl
theorem tF_28_4_5 : tabF LT 28 4 5 = some (some (.inr 31)) := rfl
theorem tF_28_4_6 : tabF LT 28 4 6 = some (some (.inr 32)) := rfl
theorem tF_28_4_7 : tabF LT 28 4 7 = some (some (.inr 33)) := rfl
theorem tF_28_4_8 : tabF LT 28 4 8 = some (some (.inr 34)) := rfl
theorem tF_28_4_9 : tabF LT 28 4 9 = some (some (.inl 1350)) := rfl
theorem tF_40_6_0 : tabF LT 40 6 0 = some (some (.inr 11)) := rfl
theorem tF_40_6_1 : tabF LT 40 6 1 = some (some (.inr 17)) := rfl
theorem tF_40_6_2 : tabF LT 40 6 2 = some (some (.inr 19)) := rfl
theorem tF_40_6_3 : tabF LT 40 6 3 = some (some (.inl 2090)) := rfl
theorem tF_40_6_4 : tabF LT 40 6 4 = some (some (.inl 2091)) := rfl
theorem tF_40_6_5 : tabF LT 40 6 5 = some (some (.inr 41)) := rfl
theorem tF_40_6_6 : tabF LT 40 6 6 = some (some (.inr 42)) := rfl
theorem tF_40_6_7 : tabF LT 40 6 7 = some (some (.inr 43)) := rfl
theorem tF_40_6_8 : tabF LT 40 6 8 = some (some (.inr 44)) := rfl
theorem tF_40_6_9 : tabF LT 40 6 9 = some (some (.inr 45)) := rfl
noncomputable def m_X7_hasOperator (a1 : Nat) (M0 : Nat) : RN :=
  bK (zLt a1) none (rK M0 3 (fun v1 => bK (nGe a1 v1) none (rbK 1 M0)))
set_option maxRecDepth 100000 in
theorem snd_X7_hasOperator {l : Launch} {g : GV} {D : va_G} {sl q : Nat} {a1 M0 : Nat} {r : Nat × Nat} (h : m_X7_hasOperator a1 M0 = some r) : SN l g D sl 1 0 q q 16 0 [(0, .inr (.inr (.inl 1))), (1, .inl a1)] [] M0 (PR r) := by
  unfold m_X7_hasOperator at h
  refine b_iln (pc' := 1) (a := .inl a1) tb_X7_hasOperator r_X7_hasOperator_0 rfl rfl rfl ?_
  obtain ⟨c1, h⟩ := bK_f h
  refine b_ifF (t := 16) (pc' := 4) tb_X7_hasOperator r_X7_hasOperator_1 rfl ((zLt_c _).symm.trans c1) rfl ?_
  refine b_iln (pc' := 5) (a := .inl a1) tb_X7_hasOperator r_X7_hasOperator_4 rfl rfl rfl ?_
  refine b_aln (pc' := 6) (a := .inr (.inr (.inl 1))) tb_X7_hasOperator r_X7_hasOperator_5 rfl rfl rfl ?_
  obtain ⟨v1, cv1, h⟩ := rK_in h
  refine b_gi (pc' := 9) tb_X7_hasOperator r_X7_hasOperator_6 tF_1_7_1 cv1 rfl ?_
  obtain ⟨c1, h⟩ := bK_f h
  refine b_icF (t := 16) (pc' := 12) tb_X7_hasOperator r_X7_hasOperator_9 rfl ((nGe_c _ _).symm.trans c1) rfl ?_
  refine b_ic (pc' := 13) (1) tb_X7_hasOperator r_X7_hasOperator_12 rfl rfl ?_
  refine b_goto (pc' := 17) tb_X7_hasOperator r_X7_hasOperator_13 rfl ?_
  obtain ⟨c1, h⟩ := rbK_in h
  exact b_rb tb_X7_hasOperator r_X7_hasOperator_17 rfl c1 h
noncomputable def m_J7_fill_53178_16 (a1 : Nat) (M0 : Nat) : RN :=
  lp (fun _ _ _ => none) (fun (j5 : (Nat → Nat →  Nat → RN)) => fun (x1 : Nat) (x2 : Nat) (M3 : Nat) => bK (nGe x1 x2) (some (1, M3)) (sK M3 1230 20 x1 a1 (fun M4 => fK (oAdd x1 1) (fun v5 => j5 v5 x2 M4)))) (fun (j5 : (Nat → Nat →  Nat → RN)) => j5 0 20 M0)
set_option maxRecDepth 100000 in
theorem snd_J7_fill_53178_16 {l : Launch} {g : GV} {D : va_G} {sl q : Nat} {a1 M0 : Nat} {r : Nat × Nat} (h : m_J7_fill_53178_16 a1 M0 = some r) : SN l g D sl 1 0 q q 1 0 [(0, .inr (.inr (.inl 16))), (1, .inl a1)] [] M0 (PR r) := by
  unfold m_J7_fill_53178_16 at h
  refine b_ic (pc' := 1) (0) tb_J7_fill_53178 r_J7_fill_53178_0 rfl rfl ?_
  refine b_stn (pc' := 2) [(2, .inl 0), (0, .inr (.inr (.inl 16))), (1, .inl a1)] tb_J7_fill_53178 r_J7_fill_53178_1 rfl rfl rfl rfl ?_
  refine b_aln (pc' := 3) (a := .inr (.inr (.inl 16))) tb_J7_fill_53178 r_J7_fill_53178_2 rfl rfl rfl ?_
  refine b_len (pc' := 4) tb_J7_fill_53178 r_J7_fill_53178_3 tA_16 rfl ?_
  refine b_stn (pc' := 5) [(3, .inl 20), (2, .inl 0), (0, .inr (.inr (.inl 16))), (1, .inl a1)] tb_J7_fill_53178 r_J7_fill_53178_4 rfl rfl rfl rfl ?_
  refine lp_in (R := fun (j5 : (Nat → Nat → Nat → RN)) => ∀ (x1 x2 M3 : Nat), j5 x1 x2 M3 = some r → SN l g D sl 1 0 q q 1 5 [(0, .inr (.inr (.inl 16))), (1, .inl a1), (2, .inl x1), (3, .inl x2)] [] M3 (PR r)) h (fun _ _ _ h => by cases h) (fun j5 hj5 => ?_) (fun j5 hj5 h => ?_)
  · intro x1 x2 M3 h
    refine b_iln (pc' := 6) (a := .inl x1) tb_J7_fill_53178 r_J7_fill_53178_5 rfl rfl rfl ?_
    refine b_iln (pc' := 7) (a := .inl x2) tb_J7_fill_53178 r_J7_fill_53178_6 rfl rfl rfl ?_
    rcases bK_in h with ⟨c1, h⟩ | ⟨c1, h⟩
    · refine b_icT (t := 20) tb_J7_fill_53178 r_J7_fill_53178_7 rfl ((nGe_c _ _).symm.trans c1) ?_
      exact b_vo tb_J7_fill_53178 r_J7_fill_53178_20 (sj h).symm
    · refine b_icF (t := 20) (pc' := 10) tb_J7_fill_53178 r_J7_fill_53178_7 rfl ((nGe_c _ _).symm.trans c1) rfl ?_
      refine b_aln (pc' := 11) (a := .inr (.inr (.inl 16))) tb_J7_fill_53178 r_J7_fill_53178_10 rfl rfl rfl ?_
      refine b_iln (pc' := 12) (a := .inl x1) tb_J7_fill_53178 r_J7_fill_53178_11 rfl rfl rfl ?_
      refine b_iln (pc' := 13) (a := .inl a1) tb_J7_fill_53178 r_J7_fill_53178_12 rfl rfl rfl ?_
      obtain ⟨M4, dM4, cM4, h⟩ := sK_in h
      refine b_is (pc' := 14) tb_J7_fill_53178 r_J7_fill_53178_13 tA_16 dM4 cM4 rfl ?_
      refine b_inc (pc' := 17) (v := x1) (n := 1) [(2, .inl (oAdd x1 1)), (0, .inr (.inr (.inl 16))), (1, .inl a1), (3, .inl x2)] tb_J7_fill_53178 r_J7_fill_53178_14 rfl rfl rfl rfl rfl ?_
      obtain ⟨v5, ev5, h⟩ := fK_v h
      rw [ev5]
      refine b_goto (pc' := 5) tb_J7_fill_53178 r_J7_fill_53178_17 rfl ?_
      refine b_sub9 [(0, .inr (.inr (.inl 16))), (1, .inl a1), (2, .inl v5), (3, .inl x2)] ⟨rfl, rfl, rfl, rfl, trivial⟩ ?_
      exact hj5 _ _ _ h
  refine b_sub9 [(0, .inr (.inr (.inl 16))), (1, .inl a1), (2, .inl 0), (3, .inl 20)] ⟨rfl, rfl, rfl, rfl, trivial⟩ ?_
  exact hj5 _ _ _ h
noncomputable def m_X8_giveNothing (M0 : Nat) : RN :=
  cV (m_J7_fill_53178_16 4294967295 M0) (fun M1 => some (1, M1))
set_option maxRecDepth 100000 in
theorem snd_X8_giveNothing {l : Launch} {g : GV} {D : va_G} {sl q : Nat} {M0 : Nat} {r : Nat × Nat} (h : m_X8_giveNothing M0 = some r) : SN l g D sl 2 0 q q 32 0 [(0, .inr (.inr (.inl 11)))] [] M0 (PR r) := by
  unfold m_X8_giveNothing at h
  refine b_aln (pc' := 1) (a := .inr (.inr (.inl 11))) tb_X8_giveNothing r_X8_giveNothing_0 rfl rfl rfl ?_
  refine b_gr (pc' := 4) tb_X8_giveNothing r_X8_giveNothing_1 tF_11_8_7 rfl ?_
  refine b_ic (pc' := 5) (4294967295) tb_X8_giveNothing r_X8_giveNothing_4 rfl rfl ?_
  obtain ⟨M1, oM1, h⟩ := cV_in h
  refine b_sV (pc' := 8) tb_X8_giveNothing r_X8_giveNothing_5 tb_J7_fill_53178 mo_J7_fill_53178 (by decide) rfl rfl oM1 (fun r hr => snd_J7_fill_53178_16 hr) (by decide) rfl rfl rfl ?_
  exact b_vo tb_X8_giveNothing r_X8_giveNothing_8 (sj h).symm
noncomputable def m_X8_startAnew (M0 : Nat) : RN :=
  pK M0 276 7500 (fun M1 => pK M1 277 0 (fun M2 => pK M2 278 4294967295 (fun M3 => pBK M3 280 0 (fun M4 => cV (m_X8_giveNothing M4) (fun M5 => some (1, M5))))))
set_option maxRecDepth 100000 in
theorem snd_X8_startAnew {l : Launch} {g : GV} {D : va_G} {sl q : Nat} {M0 : Nat} {r : Nat × Nat} (h : m_X8_startAnew M0 = some r) : SN l g D sl 3 0 q q 21 0 [(0, .inr (.inr (.inl 11)))] [] M0 (PR r) := by
  unfold m_X8_startAnew at h
  refine b_aln (pc' := 1) (a := .inr (.inr (.inl 11))) tb_X8_startAnew r_X8_startAnew_0 rfl rfl rfl ?_
  refine b_si (pc' := 4) (7500) tb_X8_startAnew r_X8_startAnew_1 rfl rfl rfl ?_
  obtain ⟨M1, cM1, h⟩ := pK_in h
  refine b_pi (pc' := 7) tb_X8_startAnew r_X8_startAnew_4 rfl tF_11_8_2 cM1 rfl ?_
  refine b_aln (pc' := 8) (a := .inr (.inr (.inl 11))) tb_X8_startAnew r_X8_startAnew_7 rfl rfl rfl ?_
  refine b_ic (pc' := 9) (0) tb_X8_startAnew r_X8_startAnew_8 rfl rfl ?_
  obtain ⟨M2, cM2, h⟩ := pK_in h
  refine b_pi (pc' := 12) tb_X8_startAnew r_X8_startAnew_9 rfl tF_11_8_4 cM2 rfl ?_
  refine b_aln (pc' := 13) (a := .inr (.inr (.inl 11))) tb_X8_startAnew r_X8_startAnew_12 rfl rfl rfl ?_
  refine b_ic (pc' := 14) (4294967295) tb_X8_startAnew r_X8_startAnew_13 rfl rfl ?_
  obtain ⟨M3, cM3, h⟩ := pK_in h
  refine b_pi (pc' := 17) tb_X8_startAnew r_X8_startAnew_14 rfl tF_11_8_8 cM3 rfl ?_
  refine b_aln (pc' := 18) (a := .inr (.inr (.inl 11))) tb_X8_startAnew r_X8_startAnew_17 rfl rfl rfl ?_
  refine b_ic (pc' := 19) (0) tb_X8_startAnew r_X8_startAnew_18 rfl rfl ?_
  obtain ⟨M4, dM4, cM4, h⟩ := pBK_in h
  refine b_pb (pc' := 22) tb_X8_startAnew r_X8_startAnew_19 rfl tF_11_8_10 dM4 cM4 rfl ?_
  refine b_aln (pc' := 23) (a := .inr (.inr (.inl 11))) tb_X8_startAnew r_X8_startAnew_22 rfl rfl rfl ?_
  obtain ⟨M5, oM5, h⟩ := cV_in h
  refine b_vV (pc' := 26) tb_X8_startAnew r_X8_startAnew_23 tb_X8_giveNothing mo_X8_giveNothing (by decide) rfl rfl oM5 (fun r hr => snd_X8_giveNothing hr) (by decide) rfl rfl rfl ?_
  exact b_vo tb_X8_startAnew r_X8_startAnew_26 (sj h).symm
noncomputable def m_X8_write (a1 a2 : Nat) (M0 : Nat) : RN :=
  rK M0 276 (fun v1 => bK (nLt v1 27460) (sK2 M0 281 780 7500 7656 v1 a1 (fun M21 => fK (oAdd v1 1) (fun v22 => lp (fun _ _ _ => none) (fun (j29 : (Nat → Nat →  Nat → RN)) => fun (x23 : Nat) (x24 : Nat) (M25 : Nat) => bK (nGe x24 a2) (pK M25 276 x23 (fun M26 => some (Nat.add v1 2, M26))) (lK M25 1225 5 x24 (fun v27 => bK (nLe (oAdd (oSub x23 v1) v27) 20) (lK M25 1220 5 x24 (fun v34 => lK M25 1225 5 x24 (fun v35 => cpK M25 281 780 7500 7656 v34 x23 v35 (fun M36 => lK M36 1225 5 x24 (fun v37 => fK (oAdd x23 v37) (fun v38 => fK (oAdd x24 1) (fun v39 => j29 v38 v39 M36))))))) none))) (fun (j29 : (Nat → Nat →  Nat → RN)) => j29 v22 0 M21)))) none)
set_option maxRecDepth 100000 in
theorem snd_X8_write {l : Launch} {g : GV} {D : va_G} {sl q : Nat} {a1 a2 M0 : Nat} {r : Nat × Nat} (h : m_X8_write a1 a2 M0 = some r) : SN l g D sl 1 0 q q 6 0 [(0, .inr (.inr (.inl 11))), (1, .inl a1), (2, .inl a2)] [] M0 (PR r) := by
  unfold m_X8_write at h
  refine b_aln (pc' := 1) (a := .inr (.inr (.inl 11))) tb_X8_write r_X8_write_0 rfl rfl rfl ?_
  obtain ⟨v1, cv1, h⟩ := rK_in h
  refine b_gi (pc' := 4) tb_X8_write r_X8_write_1 tF_11_8_2 cv1 rfl ?_
  refine b_stn (pc' := 5) [(3, .inl v1), (0, .inr (.inr (.inl 11))), (1, .inl a1), (2, .inl a2)] tb_X8_write r_X8_write_4 rfl rfl rfl rfl ?_
  refine b_iln (pc' := 6) (a := .inl v1) tb_X8_write r_X8_write_5 rfl rfl rfl ?_
  refine b_si (pc' := 9) (27460) tb_X8_write r_X8_write_6 rfl rfl rfl ?_
  obtain ⟨c1, h⟩ := bK_t h
  refine b_icT (t := 14) tb_X8_write r_X8_write_9 rfl ((nLt_c _ _).symm.trans c1) ?_
  refine b_aln (pc' := 15) (a := .inr (.inr (.inl 11))) tb_X8_write r_X8_write_14 rfl rfl rfl ?_
  refine b_gr (pc' := 18) tb_X8_write r_X8_write_15 tF_11_8_1 rfl ?_
  refine b_iln (pc' := 19) (a := .inl v1) tb_X8_write r_X8_write_18 rfl rfl rfl ?_
  refine b_iln (pc' := 20) (a := .inl a1) tb_X8_write r_X8_write_19 rfl rfl rfl ?_
  obtain ⟨M21, _, dM21, cM21, h⟩ := sK2_in h
  refine b_is2 (pc' := 21) tb_X8_write r_X8_write_20 tA_12 dM21 cM21 rfl ?_
  refine b_iln (pc' := 22) (a := .inl v1) tb_X8_write r_X8_write_21 rfl rfl rfl ?_
  refine b_ic (pc' := 23) (1) tb_X8_write r_X8_write_22 rfl rfl ?_
  refine b_add (pc' := 24) tb_X8_write r_X8_write_23 rfl ?_
  obtain ⟨v22, ev22, h⟩ := fK_v h
  rw [ev22]
  refine b_st (pc' := 26) [(4, .inl v22), (3, .inl v1), (0, .inr (.inr (.inl 11))), (1, .inl a1), (2, .inl a2)] tb_X8_write r_X8_write_24 rfl rfl rfl rfl ?_
  refine b_ic (pc' := 27) (0) tb_X8_write r_X8_write_26 rfl rfl ?_
  refine b_st (pc' := 29) [(5, .inl 0), (4, .inl v22), (3, .inl v1), (0, .inr (.inr (.inl 11))), (1, .inl a1), (2, .inl a2)] tb_X8_write r_X8_write_27 rfl rfl rfl rfl ?_
  refine lp_in (R := fun (j29 : (Nat → Nat → Nat → RN)) => ∀ (x23 x24 M25 : Nat), j29 x23 x24 M25 = some r → SN l g D sl 1 0 q q 6 29 [(0, .inr (.inr (.inl 11))), (2, .inl a2), (3, .inl v1), (4, .inl x23), (5, .inl x24)] [] M25 (PR r)) h (fun _ _ _ h => by cases h) (fun j29 hj29 => ?_) (fun j29 hj29 h => ?_)
  · intro x23 x24 M25 h
    refine b_il (pc' := 31) (a := .inl x24) tb_X8_write r_X8_write_29 rfl rfl rfl ?_
    refine b_iln (pc' := 32) (a := .inl a2) tb_X8_write r_X8_write_31 rfl rfl rfl ?_
    rcases bK_in h with ⟨c1, h⟩ | ⟨c1, h⟩
    · refine b_icT (t := 99) tb_X8_write r_X8_write_32 rfl ((nGe_c _ _).symm.trans c1) ?_
      refine b_aln (pc' := 100) (a := .inr (.inr (.inl 11))) tb_X8_write r_X8_write_99 rfl rfl rfl ?_
      refine b_il (pc' := 102) (a := .inl x23) tb_X8_write r_X8_write_100 rfl rfl rfl ?_
      obtain ⟨M26, cM26, h⟩ := pK_in h
      refine b_pi (pc' := 105) tb_X8_write r_X8_write_102 rfl tF_11_8_2 cM26 rfl ?_
      refine b_iln (pc' := 106) (a := .inl v1) tb_X8_write r_X8_write_105 rfl rfl rfl ?_
      exact b_ri tb_X8_write r_X8_write_106 rfl (sj h).symm
    · refine b_icF (t := 99) (pc' := 35) tb_X8_write r_X8_write_32 rfl ((nGe_c _ _).symm.trans c1) rfl ?_
      refine b_il (pc' := 37) (a := .inl x23) tb_X8_write r_X8_write_35 rfl rfl rfl ?_
      refine b_iln (pc' := 38) (a := .inl v1) tb_X8_write r_X8_write_37 rfl rfl rfl ?_
      refine b_sub (pc' := 39) tb_X8_write r_X8_write_38 rfl ?_
      refine b_aln (pc' := 40) (a := .inr (.inr (.inl 11))) tb_X8_write r_X8_write_39 rfl rfl rfl ?_
      refine b_gr (pc' := 43) tb_X8_write r_X8_write_40 tF_11_8_6 rfl ?_
      refine b_il (pc' := 45) (a := .inl x24) tb_X8_write r_X8_write_43 rfl rfl rfl ?_
      obtain ⟨v27, dv27, cv27, h⟩ := lK_in h
      refine b_ia (pc' := 46) tb_X8_write r_X8_write_45 tA_15 dv27 cv27 rfl ?_
      refine b_add (pc' := 47) tb_X8_write r_X8_write_46 rfl ?_
      refine b_bi (pc' := 49) (20) tb_X8_write r_X8_write_47 rfl rfl rfl ?_
      obtain ⟨c1, h⟩ := bK_t h
      refine b_icT (t := 54) tb_X8_write r_X8_write_49 rfl ((nLe_c _ _).symm.trans c1) ?_
      refine b_aln (pc' := 55) (a := .inr (.inr (.inl 11))) tb_X8_write r_X8_write_54 rfl rfl rfl ?_
      refine b_gr (pc' := 58) tb_X8_write r_X8_write_55 tF_11_8_1 rfl ?_
      refine b_aln (pc' := 59) (a := .inr (.inr (.inl 11))) tb_X8_write r_X8_write_58 rfl rfl rfl ?_
      refine b_gr (pc' := 62) tb_X8_write r_X8_write_59 tF_11_8_5 rfl ?_
      refine b_il (pc' := 64) (a := .inl x24) tb_X8_write r_X8_write_62 rfl rfl rfl ?_
      obtain ⟨v34, dv34, cv34, h⟩ := lK_in h
      refine b_ia (pc' := 65) tb_X8_write r_X8_write_64 tA_14 dv34 cv34 rfl ?_
      refine b_aln (pc' := 66) (a := .inr (.inr (.inl 11))) tb_X8_write r_X8_write_65 rfl rfl rfl ?_
      refine b_gr (pc' := 69) tb_X8_write r_X8_write_66 tF_11_8_1 rfl ?_
      refine b_il (pc' := 71) (a := .inl x23) tb_X8_write r_X8_write_69 rfl rfl rfl ?_
      refine b_aln (pc' := 72) (a := .inr (.inr (.inl 11))) tb_X8_write r_X8_write_71 rfl rfl rfl ?_
      refine b_gr (pc' := 75) tb_X8_write r_X8_write_72 tF_11_8_6 rfl ?_
      refine b_il (pc' := 77) (a := .inl x24) tb_X8_write r_X8_write_75 rfl rfl rfl ?_
      obtain ⟨v35, dv35, cv35, h⟩ := lK_in h
      refine b_ia (pc' := 78) tb_X8_write r_X8_write_77 tA_15 dv35 cv35 rfl ?_
      obtain ⟨M36, _, _, dM36, fM36, cM36, h⟩ := cpK_in h
      refine b_cp (pc' := 81) tb_X8_write r_X8_write_78 tA_12 rfl dM36 fM36 cM36 rfl ?_
      refine b_il (pc' := 83) (a := .inl x23) tb_X8_write r_X8_write_81 rfl rfl rfl ?_
      refine b_aln (pc' := 84) (a := .inr (.inr (.inl 11))) tb_X8_write r_X8_write_83 rfl rfl rfl ?_
      refine b_gr (pc' := 87) tb_X8_write r_X8_write_84 tF_11_8_6 rfl ?_
      refine b_il (pc' := 89) (a := .inl x24) tb_X8_write r_X8_write_87 rfl rfl rfl ?_
      obtain ⟨v37, dv37, cv37, h⟩ := lK_in h
      refine b_ia (pc' := 90) tb_X8_write r_X8_write_89 tA_15 dv37 cv37 rfl ?_
      refine b_add (pc' := 91) tb_X8_write r_X8_write_90 rfl ?_
      obtain ⟨v38, ev38, h⟩ := fK_v h
      rw [ev38]
      refine b_st (pc' := 93) [(4, .inl v38), (0, .inr (.inr (.inl 11))), (2, .inl a2), (3, .inl v1), (5, .inl x24)] tb_X8_write r_X8_write_91 rfl rfl rfl rfl ?_
      refine b_inc (pc' := 96) (v := x24) (n := 1) [(5, .inl (oAdd x24 1)), (4, .inl v38), (0, .inr (.inr (.inl 11))), (2, .inl a2), (3, .inl v1)] tb_X8_write r_X8_write_93 rfl rfl rfl rfl rfl ?_
      obtain ⟨v39, ev39, h⟩ := fK_v h
      rw [ev39]
      refine b_goto (pc' := 29) tb_X8_write r_X8_write_96 rfl ?_
      refine b_sub9 [(0, .inr (.inr (.inl 11))), (2, .inl a2), (3, .inl v1), (4, .inl v38), (5, .inl v39)] ⟨rfl, rfl, rfl, rfl, rfl, trivial⟩ ?_
      exact hj29 _ _ _ h
  refine b_sub9 [(0, .inr (.inr (.inl 11))), (2, .inl a2), (3, .inl v1), (4, .inl v22), (5, .inl 0)] ⟨rfl, rfl, rfl, rfl, rfl, trivial⟩ ?_
  exact hj29 _ _ _ h
noncomputable def m_X8_end (a1 : Nat) (M0 : Nat) : RN :=
  lp (fun _ _ _ => none) (fun (j4 : (Nat → Nat →  Nat → RN)) => fun (x1 : Nat) (x2 : Nat) (M3 : Nat) => jn (fun (M4 : Nat) => some (Nat.add x2 2, M4)) (fun (j50 : ( Nat → RN)) => bK (zLe x1) (j50 M3) (bK (nGe x2 27500) (j50 M3) (lK2 M3 281 780 7500 7656 x2 (fun v5 => jn (fun (s6 : Nat) (s7 : Nat) (M8 : Nat) => fK (oAdd s7 s6) (fun v9 => fK (oAdd x2 1) (fun v10 => j4 v9 v10 M8))) (fun (j42 : (Nat → Nat →  Nat → RN)) => bK (nGe v5 32) (dvK Nat.mod v5 8 (fun v11 => fK (oSub v11 1) (fun v12 => j42 v12 x1 M3))) (j42 4294967295 x1 M3))))))) (fun (j4 : (Nat → Nat →  Nat → RN)) => j4 1 a1 M0)
set_option maxRecDepth 100000 in
theorem snd_X8_end {l : Launch} {g : GV} {D : va_G} {sl q : Nat} {a1 M0 : Nat} {r : Nat × Nat} (h : m_X8_end a1 M0 = some r) : SN l g D sl 1 0 q q 2 0 [(0, .inr (.inr (.inl 11))), (1, .inl a1)] [] M0 (PR r) := by
  unfold m_X8_end at h
  refine b_ic (pc' := 1) (1) tb_X8_end r_X8_end_0 rfl rfl ?_
  refine b_stn (pc' := 2) [(2, .inl 1), (0, .inr (.inr (.inl 11))), (1, .inl a1)] tb_X8_end r_X8_end_1 rfl rfl rfl rfl ?_
  refine b_iln (pc' := 3) (a := .inl a1) tb_X8_end r_X8_end_2 rfl rfl rfl ?_
  refine b_stn (pc' := 4) [(3, .inl a1), (2, .inl 1), (0, .inr (.inr (.inl 11))), (1, .inl a1)] tb_X8_end r_X8_end_3 rfl rfl rfl rfl ?_
  refine lp_in (R := fun (j4 : (Nat → Nat → Nat → RN)) => ∀ (x1 x2 M3 : Nat), j4 x1 x2 M3 = some r → SN l g D sl 1 0 q q 2 4 [(0, .inr (.inr (.inl 11))), (2, .inl x1), (3, .inl x2)] [] M3 (PR r)) h (fun _ _ _ h => by cases h) (fun j4 hj4 => ?_) (fun j4 hj4 h => ?_)
  · intro x1 x2 M3 h
    refine b_iln (pc' := 5) (a := .inl x1) tb_X8_end r_X8_end_4 rfl rfl rfl ?_
    refine jn_in (R := fun (j50 : ( Nat → RN)) => ∀ (M4 : Nat), j50 M4 = some r → SN l g D sl 1 0 q q 2 50 [(3, .inl x2)] [] M4 (PR r)) h (fun M4 h => ?_) (fun j50 hj50 h => ?_)
    · skip
      refine b_iln (pc' := 51) (a := .inl x2) tb_X8_end r_X8_end_50 rfl rfl rfl ?_
      exact b_ri tb_X8_end r_X8_end_51 rfl (sj h).symm
    rcases bK_in h with ⟨c1, h⟩ | ⟨c1, h⟩
    · refine b_ifT (t := 50) tb_X8_end r_X8_end_5 rfl ((zLe_c _).symm.trans c1) ?_
      refine b_sub9 [(3, .inl x2)] ⟨rfl, trivial⟩ ?_
      exact hj50 _ h
    · refine b_ifF (t := 50) (pc' := 8) tb_X8_end r_X8_end_5 rfl ((zLe_c _).symm.trans c1) rfl ?_
      refine b_iln (pc' := 9) (a := .inl x2) tb_X8_end r_X8_end_8 rfl rfl rfl ?_
      refine b_si (pc' := 12) (27500) tb_X8_end r_X8_end_9 rfl rfl rfl ?_
      rcases bK_in h with ⟨c1, h⟩ | ⟨c1, h⟩
      · refine b_icT (t := 50) tb_X8_end r_X8_end_12 rfl ((nGe_c _ _).symm.trans c1) ?_
        refine b_sub9 [(3, .inl x2)] ⟨rfl, trivial⟩ ?_
        exact hj50 _ h
      · refine b_icF (t := 50) (pc' := 15) tb_X8_end r_X8_end_12 rfl ((nGe_c _ _).symm.trans c1) rfl ?_
        refine b_aln (pc' := 16) (a := .inr (.inr (.inl 11))) tb_X8_end r_X8_end_15 rfl rfl rfl ?_
        refine b_gr (pc' := 19) tb_X8_end r_X8_end_16 tF_11_8_1 rfl ?_
        refine b_iln (pc' := 20) (a := .inl x2) tb_X8_end r_X8_end_19 rfl rfl rfl ?_
        obtain ⟨v5, _, dv5, cv5, h⟩ := lK2_in h
        refine b_ia2 (pc' := 21) tb_X8_end r_X8_end_20 tA_12 dv5 cv5 rfl ?_
        refine b_st (pc' := 23) [(4, .inl v5), (0, .inr (.inr (.inl 11))), (2, .inl x1), (3, .inl x2)] tb_X8_end r_X8_end_21 rfl rfl rfl rfl ?_
        refine b_iln (pc' := 24) (a := .inl x1) tb_X8_end r_X8_end_23 rfl rfl rfl ?_
        refine b_il (pc' := 26) (a := .inl v5) tb_X8_end r_X8_end_24 rfl rfl rfl ?_
        refine b_bi (pc' := 28) (32) tb_X8_end r_X8_end_26 rfl rfl rfl ?_
        refine jn_in (R := fun (j42 : (Nat → Nat → Nat → RN)) => ∀ (s6 s7 M8 : Nat), j42 s6 s7 M8 = some r → SN l g D sl 1 0 q q 2 42 [(0, .inr (.inr (.inl 11))), (3, .inl x2)] [.inl s6, .inl s7] M8 (PR r)) h (fun s6 s7 M8 h => ?_) (fun j42 hj42 h => ?_)
        · skip
          refine b_add (pc' := 43) tb_X8_end r_X8_end_42 rfl ?_
          obtain ⟨v9, ev9, h⟩ := fK_v h
          rw [ev9]
          refine b_stn (pc' := 44) [(2, .inl v9), (0, .inr (.inr (.inl 11))), (3, .inl x2)] tb_X8_end r_X8_end_43 rfl rfl rfl rfl ?_
          refine b_inc (pc' := 47) (v := x2) (n := 1) [(3, .inl (oAdd x2 1)), (2, .inl v9), (0, .inr (.inr (.inl 11)))] tb_X8_end r_X8_end_44 rfl rfl rfl rfl rfl ?_
          obtain ⟨v10, ev10, h⟩ := fK_v h
          rw [ev10]
          refine b_goto (pc' := 4) tb_X8_end r_X8_end_47 rfl ?_
          refine b_sub9 [(0, .inr (.inr (.inl 11))), (2, .inl v9), (3, .inl v10)] ⟨rfl, rfl, rfl, trivial⟩ ?_
          exact hj4 _ _ _ h
        rcases bK_in h with ⟨c1, h⟩ | ⟨c1, h⟩
        · refine b_icT (t := 35) tb_X8_end r_X8_end_28 rfl ((nGe_c _ _).symm.trans c1) ?_
          refine b_il (pc' := 37) (a := .inl v5) tb_X8_end r_X8_end_35 rfl rfl rfl ?_
          refine b_bi (pc' := 39) (8) tb_X8_end r_X8_end_37 rfl rfl rfl ?_
          obtain ⟨v11, c1, c2, c3, ev11, h⟩ := dvK_in h
          refine b_rem (pc' := 40) tb_X8_end r_X8_end_39 c1 c2 c3 ev11 rfl ?_
          refine b_ic (pc' := 41) (1) tb_X8_end r_X8_end_40 rfl rfl ?_
          refine b_sub (pc' := 42) tb_X8_end r_X8_end_41 rfl ?_
          obtain ⟨v12, ev12, h⟩ := fK_v h
          rw [ev12]
          refine b_sub9 [(0, .inr (.inr (.inl 11))), (3, .inl x2)] ⟨rfl, rfl, trivial⟩ ?_
          exact hj42 _ _ _ h
        · refine b_icF (t := 35) (pc' := 31) tb_X8_end r_X8_end_28 rfl ((nGe_c _ _).symm.trans c1) rfl ?_
          refine b_ic (pc' := 32) (4294967295) tb_X8_end r_X8_end_31 rfl rfl ?_
          refine b_goto (pc' := 42) tb_X8_end r_X8_end_32 rfl ?_
          refine b_sub9 [(0, .inr (.inr (.inl 11))), (3, .inl x2)] ⟨rfl, rfl, trivial⟩ ?_
          exact hj42 _ _ _ h
  refine b_sub9 [(0, .inr (.inr (.inl 11))), (2, .inl 1), (3, .inl a1)] ⟨rfl, rfl, rfl, trivial⟩ ?_
  exact hj4 _ _ _ h
noncomputable def m_X8_order (a1 a2 : Nat) (M0 : Nat) : RN :=
  lp (fun _ _ _ => none) (fun (j5 : (Nat → Nat →  Nat → RN)) => fun (x1 : Nat) (x2 : Nat) (M3 : Nat) => jn (fun (M4 : Nat) => some (Nat.add 0 2, M4)) (fun (j81 : ( Nat → RN)) => bK (nGe x2 20) (j81 M3) (bK (zLe x1) (j81 M3) (fK (oAdd a1 x2) (fun v5 => lK2 M3 281 780 7500 7656 v5 (fun v6 => fK (oAdd a2 x2) (fun v7 => lK2 M3 281 780 7500 7656 v7 (fun v8 => bK (nEq v6 v8) (bK (nGe v6 32) (dvK Nat.mod v6 8 (fun v12 => fK (oAdd x1 (oSub v12 1)) (fun v13 => fK (oAdd x2 1) (fun v14 => j5 v13 v14 M3)))) none) (fK (oAdd a2 x2) (fun v15 => lK2 M3 281 780 7500 7656 v15 (fun v16 => some (Nat.add (oSub v6 v16) 2, M3)))))))))))) (fun (j5 : (Nat → Nat →  Nat → RN)) => j5 1 0 M0)
set_option maxRecDepth 100000 in
theorem snd_X8_order {l : Launch} {g : GV} {D : va_G} {sl q : Nat} {a1 a2 M0 : Nat} {r : Nat × Nat} (h : m_X8_order a1 a2 M0 = some r) : SN l g D sl 1 0 q q 73 0 [(0, .inr (.inr (.inl 11))), (1, .inl a1), (2, .inl a2)] [] M0 (PR r) := by
  unfold m_X8_order at h
  refine b_ic (pc' := 1) (1) tb_X8_order r_X8_order_0 rfl rfl ?_
  refine b_stn (pc' := 2) [(3, .inl 1), (0, .inr (.inr (.inl 11))), (1, .inl a1), (2, .inl a2)] tb_X8_order r_X8_order_1 rfl rfl rfl rfl ?_
  refine b_ic (pc' := 3) (0) tb_X8_order r_X8_order_2 rfl rfl ?_
  refine b_st (pc' := 5) [(4, .inl 0), (3, .inl 1), (0, .inr (.inr (.inl 11))), (1, .inl a1), (2, .inl a2)] tb_X8_order r_X8_order_3 rfl rfl rfl rfl ?_
  refine lp_in (R := fun (j5 : (Nat → Nat → Nat → RN)) => ∀ (x1 x2 M3 : Nat), j5 x1 x2 M3 = some r → SN l g D sl 1 0 q q 73 5 [(0, .inr (.inr (.inl 11))), (1, .inl a1), (2, .inl a2), (3, .inl x1), (4, .inl x2)] [] M3 (PR r)) h (fun _ _ _ h => by cases h) (fun j5 hj5 => ?_) (fun j5 hj5 h => ?_)
  · intro x1 x2 M3 h
    refine b_il (pc' := 7) (a := .inl x2) tb_X8_order r_X8_order_5 rfl rfl rfl ?_
    refine b_bi (pc' := 9) (20) tb_X8_order r_X8_order_7 rfl rfl rfl ?_
    refine jn_in (R := fun (j81 : ( Nat → RN)) => ∀ (M4 : Nat), j81 M4 = some r → SN l g D sl 1 0 q q 73 81 [] [] M4 (PR r)) h (fun M4 h => ?_) (fun j81 hj81 h => ?_)
    · skip
      refine b_ic (pc' := 82) (0) tb_X8_order r_X8_order_81 rfl rfl ?_
      exact b_ri tb_X8_order r_X8_order_82 rfl (sj h).symm
    rcases bK_in h with ⟨c1, h⟩ | ⟨c1, h⟩
    · refine b_icT (t := 81) tb_X8_order r_X8_order_9 rfl ((nGe_c _ _).symm.trans c1) ?_
      refine b_sub9 [] trivial ?_
      exact hj81 _ h
    · refine b_icF (t := 81) (pc' := 12) tb_X8_order r_X8_order_9 rfl ((nGe_c _ _).symm.trans c1) rfl ?_
      refine b_iln (pc' := 13) (a := .inl x1) tb_X8_order r_X8_order_12 rfl rfl rfl ?_
      rcases bK_in h with ⟨c1, h⟩ | ⟨c1, h⟩
      · refine b_ifT (t := 81) tb_X8_order r_X8_order_13 rfl ((zLe_c _).symm.trans c1) ?_
        refine b_sub9 [] trivial ?_
        exact hj81 _ h
      · refine b_ifF (t := 81) (pc' := 16) tb_X8_order r_X8_order_13 rfl ((zLe_c _).symm.trans c1) rfl ?_
        refine b_aln (pc' := 17) (a := .inr (.inr (.inl 11))) tb_X8_order r_X8_order_16 rfl rfl rfl ?_
        refine b_gr (pc' := 20) tb_X8_order r_X8_order_17 tF_11_8_1 rfl ?_
        refine b_iln (pc' := 21) (a := .inl a1) tb_X8_order r_X8_order_20 rfl rfl rfl ?_
        refine b_il (pc' := 23) (a := .inl x2) tb_X8_order r_X8_order_21 rfl rfl rfl ?_
        refine b_add (pc' := 24) tb_X8_order r_X8_order_23 rfl ?_
        obtain ⟨v5, ev5, h⟩ := fK_v h
        rw [ev5]
        obtain ⟨v6, _, dv6, cv6, h⟩ := lK2_in h
        refine b_ia2 (pc' := 25) tb_X8_order r_X8_order_24 tA_12 dv6 cv6 rfl ?_
        refine b_st (pc' := 27) [(5, .inl v6), (0, .inr (.inr (.inl 11))), (1, .inl a1), (2, .inl a2), (3, .inl x1), (4, .inl x2)] tb_X8_order r_X8_order_25 rfl rfl rfl rfl ?_
        refine b_il (pc' := 29) (a := .inl v6) tb_X8_order r_X8_order_27 rfl rfl rfl ?_
        refine b_aln (pc' := 30) (a := .inr (.inr (.inl 11))) tb_X8_order r_X8_order_29 rfl rfl rfl ?_
        refine b_gr (pc' := 33) tb_X8_order r_X8_order_30 tF_11_8_1 rfl ?_
        refine b_iln (pc' := 34) (a := .inl a2) tb_X8_order r_X8_order_33 rfl rfl rfl ?_
        refine b_il (pc' := 36) (a := .inl x2) tb_X8_order r_X8_order_34 rfl rfl rfl ?_
        refine b_add (pc' := 37) tb_X8_order r_X8_order_36 rfl ?_
        obtain ⟨v7, ev7, h⟩ := fK_v h
        rw [ev7]
        obtain ⟨v8, _, dv8, cv8, h⟩ := lK2_in h
        refine b_ia2 (pc' := 38) tb_X8_order r_X8_order_37 tA_12 dv8 cv8 rfl ?_
        rcases bK_in h with ⟨c1, h⟩ | ⟨c1, h⟩
        · refine b_icT (t := 54) tb_X8_order r_X8_order_38 rfl ((nEq_c _ _).symm.trans c1) ?_
          refine b_iln (pc' := 55) (a := .inl x1) tb_X8_order r_X8_order_54 rfl rfl rfl ?_
          refine b_il (pc' := 57) (a := .inl v6) tb_X8_order r_X8_order_55 rfl rfl rfl ?_
          refine b_bi (pc' := 59) (32) tb_X8_order r_X8_order_57 rfl rfl rfl ?_
          obtain ⟨c1, h⟩ := bK_t h
          refine b_icT (t := 66) tb_X8_order r_X8_order_59 rfl ((nGe_c _ _).symm.trans c1) ?_
          refine b_il (pc' := 68) (a := .inl v6) tb_X8_order r_X8_order_66 rfl rfl rfl ?_
          refine b_bi (pc' := 70) (8) tb_X8_order r_X8_order_68 rfl rfl rfl ?_
          obtain ⟨v12, c1, c2, c3, ev12, h⟩ := dvK_in h
          refine b_rem (pc' := 71) tb_X8_order r_X8_order_70 c1 c2 c3 ev12 rfl ?_
          refine b_ic (pc' := 72) (1) tb_X8_order r_X8_order_71 rfl rfl ?_
          refine b_sub (pc' := 73) tb_X8_order r_X8_order_72 rfl ?_
          refine b_add (pc' := 74) tb_X8_order r_X8_order_73 rfl ?_
          obtain ⟨v13, ev13, h⟩ := fK_v h
          rw [ev13]
          refine b_stn (pc' := 75) [(3, .inl v13), (5, .inl v6), (0, .inr (.inr (.inl 11))), (1, .inl a1), (2, .inl a2), (4, .inl x2)] tb_X8_order r_X8_order_74 rfl rfl rfl rfl ?_
          refine b_inc (pc' := 78) (v := x2) (n := 1) [(4, .inl (oAdd x2 1)), (3, .inl v13), (5, .inl v6), (0, .inr (.inr (.inl 11))), (1, .inl a1), (2, .inl a2)] tb_X8_order r_X8_order_75 rfl rfl rfl rfl rfl ?_
          obtain ⟨v14, ev14, h⟩ := fK_v h
          rw [ev14]
          refine b_goto (pc' := 5) tb_X8_order r_X8_order_78 rfl ?_
          refine b_sub9 [(0, .inr (.inr (.inl 11))), (1, .inl a1), (2, .inl a2), (3, .inl v13), (4, .inl v14)] ⟨rfl, rfl, rfl, rfl, rfl, trivial⟩ ?_
          exact hj5 _ _ _ h
        · refine b_icF (t := 54) (pc' := 41) tb_X8_order r_X8_order_38 rfl ((nEq_c _ _).symm.trans c1) rfl ?_
          refine b_il (pc' := 43) (a := .inl v6) tb_X8_order r_X8_order_41 rfl rfl rfl ?_
          refine b_aln (pc' := 44) (a := .inr (.inr (.inl 11))) tb_X8_order r_X8_order_43 rfl rfl rfl ?_
          refine b_gr (pc' := 47) tb_X8_order r_X8_order_44 tF_11_8_1 rfl ?_
          refine b_iln (pc' := 48) (a := .inl a2) tb_X8_order r_X8_order_47 rfl rfl rfl ?_
          refine b_il (pc' := 50) (a := .inl x2) tb_X8_order r_X8_order_48 rfl rfl rfl ?_
          refine b_add (pc' := 51) tb_X8_order r_X8_order_50 rfl ?_
          obtain ⟨v15, ev15, h⟩ := fK_v h
          rw [ev15]
          obtain ⟨v16, _, dv16, cv16, h⟩ := lK2_in h
          refine b_ia2 (pc' := 52) tb_X8_order r_X8_order_51 tA_12 dv16 cv16 rfl ?_
          refine b_sub (pc' := 53) tb_X8_order r_X8_order_52 rfl ?_
          exact b_ri tb_X8_order r_X8_order_53 rfl (sj h).symm
  refine b_sub9 [(0, .inr (.inr (.inl 11))), (1, .inl a1), (2, .inl a2), (3, .inl 1), (4, .inl 0)] ⟨rfl, rfl, rfl, rfl, rfl, trivial⟩ ?_
  exact hj5 _ _ _ h
noncomputable def m_X8_putOn (a1 a2 : Nat) (M0 : Nat) : RN :=
  lK M0 28 12 a1 (fun v1 => jn (fun (s2 : Nat) (M3 : Nat) => lK M3 40 12 a1 (fun v4 => jn (fun (s5 : Nat) (M6 : Nat) => rK M6 277 (fun v7 => pK M6 277 a2 (fun M8 => lp (fun _ _ _ => none) (fun (j70 : (Nat → Nat →  Nat → RN)) => fun (x9 : Nat) (x10 : Nat) (M11 : Nat) => bK (nGe x10 v7) (jn (fun (M12 : Nat) => jn (fun (s13 : Nat) (M14 : Nat) => cI (m_X8_write s13 x9 M14) (fun v16 M15 => some (Nat.add v16 2, M15))) (fun (j346 : (Nat →  Nat → RN)) => jn (fun (M17 : Nat) => fK (oAdd (oAdd 32 (oMul a1 8)) x9) (fun v18 => j346 v18 M17)) (fun (j336 : ( Nat → RN)) => bK (zNe x9) (j336 M12) (bK (zEq s2) (j336 M12) (j346 s5 M12))))) (fun (j320 : ( Nat → RN)) => bK (nNe x9 1) (j320 M11) (bK (zEq s2) (j320 M11) (lK M11 1220 5 0 (fun v19 => some (Nat.add v19 2, M11)))))) (lK M11 1217 3 x10 (fun v20 => lK2 M11 281 780 7500 7656 v20 (fun v21 => jn (fun (s22 : Nat) (M23 : Nat) => jn (fun (s24 : Nat) (M25 : Nat) => jn (fun (s26 : Nat) (s27 : Nat) (M28 : Nat) => fK (oAdd s27 s26) (fun v29 => lp (fun _ _ _ _ => none) (fun (j163 : (Nat → Nat → Nat →  Nat → RN)) => fun (x30 : Nat) (x31 : Nat) (x32 : Nat) (M33 : Nat) => bK (nGe x32 s24) (fK (oAdd x10 1) (fun v34 => j70 x30 v34 M33)) (bK (nLt x30 5) (lp (fun _ _ => none) (fun (j182 : (Nat →  Nat → RN)) => fun (x35 : Nat) (M36 : Nat) => jn (fun (M37 : Nat) => sK M37 1220 5 x35 x31 (fun M38 => cI (m_X8_end x31 M38) (fun v40 M39 => lK M39 1220 5 x35 (fun v41 => sK M39 1225 5 x35 (oSub v40 v41) (fun M42 => fK (oAdd x30 1) (fun v43 => fK (oAdd x32 1) (fun v44 => j163 v43 v40 v44 M42))))))) (fun (j253 : ( Nat → RN)) => bK (zLe x35) (j253 M36) (jn (fun (M45 : Nat) => fK (oSub x35 1) (fun v46 => lK M45 1220 5 v46 (fun v47 => cI (m_X8_order x31 v47 M45) (fun v49 M48 => bK (zGe v49) (j253 M48) (fK (oSub x35 1) (fun v50 => lK M48 1220 5 v50 (fun v51 => sK M48 1220 5 x35 v51 (fun M52 => fK (oSub x35 1) (fun v53 => lK M52 1225 5 v53 (fun v54 => sK M52 1225 5 x35 v54 (fun M55 => fK (oAdd x35 4294967295) (fun v56 => j182 v56 M55)))))))))))) (fun (j197 : ( Nat → RN)) => bK (nEq v1 1) (j197 M36) (bK (nNe v1 3) (j253 M36) (j197 M36)))))) (fun (j182 : (Nat →  Nat → RN)) => j182 x30 M33)) (some (Nat.add 4294967295 2, M33)))) (fun (j163 : (Nat → Nat → Nat →  Nat → RN)) => j163 x9 v29 0 M28))) (fun (j157 : (Nat → Nat →  Nat → RN)) => bK (zEq s22) (j157 0 v20 M25) (j157 1 v20 M25))) (fun (j143 : (Nat →  Nat → RN)) => bK (zEq s22) (bK (nNe v21 s5) (j143 1 M23) (j143 0 M23)) (dvK Nat.mod v21 8 (fun v57 => j143 v57 M23)))) (fun (j116 : (Nat →  Nat → RN)) => jn (fun (M58 : Nat) => j116 0 M58) (fun (j115 : ( Nat → RN)) => bK (zEq s2) (j115 M11) (dvK Nat.div v21 8 (fun v59 => bK (nNe (oSub v59 4) a1) (j115 M11) (j116 1 M11))))))))) (fun (j70 : (Nat → Nat →  Nat → RN)) => j70 0 a2 M8)))) (fun (j51 : (Nat →  Nat → RN)) => bK (nNe v4 4294967295) (fK (oAdd 32 (oMul v4 8)) (fun v60 => j51 v60 M3)) (j51 4294967295 M3)))) (fun (j20 : (Nat →  Nat → RN)) => bK (nLt v1 2) (j20 0 M0) (j20 1 M0)))
set_option maxRecDepth 100000 in
theorem snd_X8_putOn {l : Launch} {g : GV} {D : va_G} {sl q : Nat} {a1 a2 M0 : Nat} {r : Nat × Nat} (h : m_X8_putOn a1 a2 M0 = some r) : SN l g D sl 2 0 q q 3 0 [(0, .inr (.inr (.inl 11))), (1, .inl a1), (2, .inl a2)] [] M0 (PR r) := by
  unfold m_X8_putOn at h
  refine b_aln (pc' := 1) (a := .inr (.inr (.inl 11))) tb_X8_putOn r_X8_putOn_0 rfl rfl rfl ?_
  refine b_gr (pc' := 4) tb_X8_putOn r_X8_putOn_1 tF_11_8_0 rfl ?_
  refine b_gr (pc' := 7) tb_X8_putOn r_X8_putOn_4 tF_1_7_5 rfl ?_
  refine b_iln (pc' := 8) (a := .inl a1) tb_X8_putOn r_X8_putOn_7 rfl rfl rfl ?_
  obtain ⟨v1, dv1, cv1, h⟩ := lK_in h
  refine b_ia (pc' := 9) tb_X8_putOn r_X8_putOn_8 tA_5 dv1 cv1 rfl ?_
  refine b_stn (pc' := 10) [(3, .inl v1), (0, .inr (.inr (.inl 11))), (1, .inl a1), (2, .inl a2)] tb_X8_putOn r_X8_putOn_9 rfl rfl rfl rfl ?_
  refine b_iln (pc' := 11) (a := .inl v1) tb_X8_putOn r_X8_putOn_10 rfl rfl rfl ?_
  refine b_ic (pc' := 12) (2) tb_X8_putOn r_X8_putOn_11 rfl rfl ?_
  refine jn_in (R := fun (j20 : (Nat → Nat → RN)) => ∀ (s2 M3 : Nat), j20 s2 M3 = some r → SN l g D sl 2 0 q q 3 20 [(0, .inr (.inr (.inl 11))), (1, .inl a1), (2, .inl a2), (3, .inl v1)] [.inl s2] M3 (PR r)) h (fun s2 M3 h => ?_) (fun j20 hj20 h => ?_)
  · skip
    refine b_st (pc' := 22) [(4, .inl s2), (0, .inr (.inr (.inl 11))), (1, .inl a1), (2, .inl a2), (3, .inl v1)] tb_X8_putOn r_X8_putOn_20 rfl rfl rfl rfl ?_
    refine b_aln (pc' := 23) (a := .inr (.inr (.inl 11))) tb_X8_putOn r_X8_putOn_22 rfl rfl rfl ?_
    refine b_gr (pc' := 26) tb_X8_putOn r_X8_putOn_23 tF_11_8_0 rfl ?_
    refine b_gr (pc' := 29) tb_X8_putOn r_X8_putOn_26 tF_1_7_6 rfl ?_
    refine b_iln (pc' := 30) (a := .inl a1) tb_X8_putOn r_X8_putOn_29 rfl rfl rfl ?_
    obtain ⟨v4, dv4, cv4, h⟩ := lK_in h
    refine b_ia (pc' := 31) tb_X8_putOn r_X8_putOn_30 tA_6 dv4 cv4 rfl ?_
    refine b_st (pc' := 33) [(5, .inl v4), (4, .inl s2), (0, .inr (.inr (.inl 11))), (1, .inl a1), (2, .inl a2), (3, .inl v1)] tb_X8_putOn r_X8_putOn_31 rfl rfl rfl rfl ?_
    refine b_il (pc' := 35) (a := .inl v4) tb_X8_putOn r_X8_putOn_33 rfl rfl rfl ?_
    refine b_ic (pc' := 36) (4294967295) tb_X8_putOn r_X8_putOn_35 rfl rfl ?_
    refine jn_in (R := fun (j51 : (Nat → Nat → RN)) => ∀ (s5 M6 : Nat), j51 s5 M6 = some r → SN l g D sl 2 0 q q 3 51 [(0, .inr (.inr (.inl 11))), (1, .inl a1), (2, .inl a2), (3, .inl v1), (4, .inl s2)] [.inl s5] M6 (PR r)) h (fun s5 M6 h => ?_) (fun j51 hj51 h => ?_)
    · skip
      refine b_st (pc' := 53) [(6, .inl s5), (0, .inr (.inr (.inl 11))), (1, .inl a1), (2, .inl a2), (3, .inl v1), (4, .inl s2)] tb_X8_putOn r_X8_putOn_51 rfl rfl rfl rfl ?_
      refine b_aln (pc' := 54) (a := .inr (.inr (.inl 11))) tb_X8_putOn r_X8_putOn_53 rfl rfl rfl ?_
      obtain ⟨v7, cv7, h⟩ := rK_in h
      refine b_gi (pc' := 57) tb_X8_putOn r_X8_putOn_54 tF_11_8_4 cv7 rfl ?_
      refine b_st (pc' := 59) [(7, .inl v7), (6, .inl s5), (0, .inr (.inr (.inl 11))), (1, .inl a1), (2, .inl a2), (3, .inl v1), (4, .inl s2)] tb_X8_putOn r_X8_putOn_57 rfl rfl rfl rfl ?_
      refine b_ic (pc' := 60) (0) tb_X8_putOn r_X8_putOn_59 rfl rfl ?_
      refine b_st (pc' := 62) [(8, .inl 0), (7, .inl v7), (6, .inl s5), (0, .inr (.inr (.inl 11))), (1, .inl a1), (2, .inl a2), (3, .inl v1), (4, .inl s2)] tb_X8_putOn r_X8_putOn_60 rfl rfl rfl rfl ?_
      refine b_aln (pc' := 63) (a := .inr (.inr (.inl 11))) tb_X8_putOn r_X8_putOn_62 rfl rfl rfl ?_
      refine b_iln (pc' := 64) (a := .inl a2) tb_X8_putOn r_X8_putOn_63 rfl rfl rfl ?_
      obtain ⟨M8, cM8, h⟩ := pK_in h
      refine b_pi (pc' := 67) tb_X8_putOn r_X8_putOn_64 rfl tF_11_8_4 cM8 rfl ?_
      refine b_iln (pc' := 68) (a := .inl a2) tb_X8_putOn r_X8_putOn_67 rfl rfl rfl ?_
      refine b_st (pc' := 70) [(9, .inl a2), (8, .inl 0), (7, .inl v7), (6, .inl s5), (0, .inr (.inr (.inl 11))), (1, .inl a1), (2, .inl a2), (3, .inl v1), (4, .inl s2)] tb_X8_putOn r_X8_putOn_68 rfl rfl rfl rfl ?_
      refine lp_in (R := fun (j70 : (Nat → Nat → Nat → RN)) => ∀ (x9 x10 M11 : Nat), j70 x9 x10 M11 = some r → SN l g D sl 2 0 q q 3 70 [(0, .inr (.inr (.inl 11))), (1, .inl a1), (3, .inl v1), (4, .inl s2), (6, .inl s5), (7, .inl v7), (8, .inl x9), (9, .inl x10)] [] M11 (PR r)) h (fun _ _ _ h => by cases h) (fun j70 hj70 => ?_) (fun j70 hj70 h => ?_)
      · intro x9 x10 M11 h
        refine b_il (pc' := 72) (a := .inl x10) tb_X8_putOn r_X8_putOn_70 rfl rfl rfl ?_
        refine b_il (pc' := 74) (a := .inl v7) tb_X8_putOn r_X8_putOn_72 rfl rfl rfl ?_
        rcases bK_in h with ⟨c1, h⟩ | ⟨c1, h⟩
        · refine b_icT (t := 302) tb_X8_putOn r_X8_putOn_74 rfl ((nGe_c _ _).symm.trans c1) ?_
          refine b_il (pc' := 304) (a := .inl x9) tb_X8_putOn r_X8_putOn_302 rfl rfl rfl ?_
          refine b_ic (pc' := 305) (1) tb_X8_putOn r_X8_putOn_304 rfl rfl ?_
          refine jn_in (R := fun (j320 : ( Nat → RN)) => ∀ (M12 : Nat), j320 M12 = some r → SN l g D sl 2 0 q q 3 320 [(0, .inr (.inr (.inl 11))), (1, .inl a1), (4, .inl s2), (6, .inl s5), (8, .inl x9)] [] M12 (PR r)) h (fun M12 h => ?_) (fun j320 hj320 h => ?_)
          · skip
            refine b_aln (pc' := 321) (a := .inr (.inr (.inl 11))) tb_X8_putOn r_X8_putOn_320 rfl rfl rfl ?_
            refine b_il (pc' := 323) (a := .inl x9) tb_X8_putOn r_X8_putOn_321 rfl rfl rfl ?_
            refine jn_in (R := fun (j346 : (Nat → Nat → RN)) => ∀ (s13 M14 : Nat), j346 s13 M14 = some r → SN l g D sl 2 0 q q 3 346 [(8, .inl x9)] [.inl s13, .inr (.inr (.inl 11))] M14 (PR r)) h (fun s13 M14 h => ?_) (fun j346 hj346 h => ?_)
            · skip
              refine b_il (pc' := 348) (a := .inl x9) tb_X8_putOn r_X8_putOn_346 rfl rfl rfl ?_
              obtain ⟨v16, M15, ov16, h⟩ := cI_in h
              refine b_vI (pc' := 351) tb_X8_putOn r_X8_putOn_348 tb_X8_write mo_X8_write (by decide) rfl rfl ov16 (fun r hr => snd_X8_write hr) (by decide) rfl rfl rfl ?_
              exact b_ri tb_X8_putOn r_X8_putOn_351 rfl (sj h).symm
            refine jn_in (R := fun (j336 : ( Nat → RN)) => ∀ (M17 : Nat), j336 M17 = some r → SN l g D sl 2 0 q q 3 336 [(1, .inl a1), (8, .inl x9)] [.inr (.inr (.inl 11))] M17 (PR r)) h (fun M17 h => ?_) (fun j336 hj336 h => ?_)
            · skip
              refine b_bi (pc' := 338) (32) tb_X8_putOn r_X8_putOn_336 rfl rfl rfl ?_
              refine b_iln (pc' := 339) (a := .inl a1) tb_X8_putOn r_X8_putOn_338 rfl rfl rfl ?_
              refine b_bi (pc' := 341) (8) tb_X8_putOn r_X8_putOn_339 rfl rfl rfl ?_
              refine b_mul (pc' := 342) tb_X8_putOn r_X8_putOn_341 rfl ?_
              refine b_add (pc' := 343) tb_X8_putOn r_X8_putOn_342 rfl ?_
              refine b_il (pc' := 345) (a := .inl x9) tb_X8_putOn r_X8_putOn_343 rfl rfl rfl ?_
              refine b_add (pc' := 346) tb_X8_putOn r_X8_putOn_345 rfl ?_
              obtain ⟨v18, ev18, h⟩ := fK_v h
              rw [ev18]
              refine b_sub9 [(8, .inl x9)] ⟨rfl, trivial⟩ ?_
              exact hj346 _ _ h
            rcases bK_in h with ⟨c1, h⟩ | ⟨c1, h⟩
            · refine b_ifT (t := 336) tb_X8_putOn r_X8_putOn_323 rfl ((zNe_c _).symm.trans c1) ?_
              refine b_sub9 [(1, .inl a1), (8, .inl x9)] ⟨rfl, rfl, trivial⟩ ?_
              exact hj336 _ h
            · refine b_ifF (t := 336) (pc' := 326) tb_X8_putOn r_X8_putOn_323 rfl ((zNe_c _).symm.trans c1) rfl ?_
              refine b_il (pc' := 328) (a := .inl s2) tb_X8_putOn r_X8_putOn_326 rfl rfl rfl ?_
              rcases bK_in h with ⟨c1, h⟩ | ⟨c1, h⟩
              · refine b_ifT (t := 336) tb_X8_putOn r_X8_putOn_328 rfl ((zEq_c _).symm.trans c1) ?_
                refine b_sub9 [(1, .inl a1), (8, .inl x9)] ⟨rfl, rfl, trivial⟩ ?_
                exact hj336 _ h
              · refine b_ifF (t := 336) (pc' := 331) tb_X8_putOn r_X8_putOn_328 rfl ((zEq_c _).symm.trans c1) rfl ?_
                refine b_il (pc' := 333) (a := .inl s5) tb_X8_putOn r_X8_putOn_331 rfl rfl rfl ?_
                refine b_goto (pc' := 346) tb_X8_putOn r_X8_putOn_333 rfl ?_
                refine b_sub9 [(8, .inl x9)] ⟨rfl, trivial⟩ ?_
                exact hj346 _ _ h
          rcases bK_in h with ⟨c1, h⟩ | ⟨c1, h⟩
          · refine b_icT (t := 320) tb_X8_putOn r_X8_putOn_305 rfl ((nNe_c _ _).symm.trans c1) ?_
            refine b_sub9 [(0, .inr (.inr (.inl 11))), (1, .inl a1), (4, .inl s2), (6, .inl s5), (8, .inl x9)] ⟨rfl, rfl, rfl, rfl, rfl, trivial⟩ ?_
            exact hj320 _ h
          · refine b_icF (t := 320) (pc' := 308) tb_X8_putOn r_X8_putOn_305 rfl ((nNe_c _ _).symm.trans c1) rfl ?_
            refine b_il (pc' := 310) (a := .inl s2) tb_X8_putOn r_X8_putOn_308 rfl rfl rfl ?_
            rcases bK_in h with ⟨c1, h⟩ | ⟨c1, h⟩
            · refine b_ifT (t := 320) tb_X8_putOn r_X8_putOn_310 rfl ((zEq_c _).symm.trans c1) ?_
              refine b_sub9 [(0, .inr (.inr (.inl 11))), (1, .inl a1), (4, .inl s2), (6, .inl s5), (8, .inl x9)] ⟨rfl, rfl, rfl, rfl, rfl, trivial⟩ ?_
              exact hj320 _ h
            · refine b_ifF (t := 320) (pc' := 313) tb_X8_putOn r_X8_putOn_310 rfl ((zEq_c _).symm.trans c1) rfl ?_
              refine b_aln (pc' := 314) (a := .inr (.inr (.inl 11))) tb_X8_putOn r_X8_putOn_313 rfl rfl rfl ?_
              refine b_gr (pc' := 317) tb_X8_putOn r_X8_putOn_314 tF_11_8_5 rfl ?_
              refine b_ic (pc' := 318) (0) tb_X8_putOn r_X8_putOn_317 rfl rfl ?_
              obtain ⟨v19, dv19, cv19, h⟩ := lK_in h
              refine b_ia (pc' := 319) tb_X8_putOn r_X8_putOn_318 tA_14 dv19 cv19 rfl ?_
              exact b_ri tb_X8_putOn r_X8_putOn_319 rfl (sj h).symm
        · refine b_icF (t := 302) (pc' := 77) tb_X8_putOn r_X8_putOn_74 rfl ((nGe_c _ _).symm.trans c1) rfl ?_
          refine b_aln (pc' := 78) (a := .inr (.inr (.inl 11))) tb_X8_putOn r_X8_putOn_77 rfl rfl rfl ?_
          refine b_gr (pc' := 81) tb_X8_putOn r_X8_putOn_78 tF_11_8_3 rfl ?_
          refine b_il (pc' := 83) (a := .inl x10) tb_X8_putOn r_X8_putOn_81 rfl rfl rfl ?_
          obtain ⟨v20, dv20, cv20, h⟩ := lK_in h
          refine b_ia (pc' := 84) tb_X8_putOn r_X8_putOn_83 tA_13 dv20 cv20 rfl ?_
          refine b_st (pc' := 86) [(10, .inl v20), (0, .inr (.inr (.inl 11))), (1, .inl a1), (3, .inl v1), (4, .inl s2), (6, .inl s5), (7, .inl v7), (8, .inl x9), (9, .inl x10)] tb_X8_putOn r_X8_putOn_84 rfl rfl rfl rfl ?_
          refine b_aln (pc' := 87) (a := .inr (.inr (.inl 11))) tb_X8_putOn r_X8_putOn_86 rfl rfl rfl ?_
          refine b_gr (pc' := 90) tb_X8_putOn r_X8_putOn_87 tF_11_8_1 rfl ?_
          refine b_il (pc' := 92) (a := .inl v20) tb_X8_putOn r_X8_putOn_90 rfl rfl rfl ?_
          obtain ⟨v21, _, dv21, cv21, h⟩ := lK2_in h
          refine b_ia2 (pc' := 93) tb_X8_putOn r_X8_putOn_92 tA_12 dv21 cv21 rfl ?_
          refine b_st (pc' := 95) [(11, .inl v21), (10, .inl v20), (0, .inr (.inr (.inl 11))), (1, .inl a1), (3, .inl v1), (4, .inl s2), (6, .inl s5), (7, .inl v7), (8, .inl x9), (9, .inl x10)] tb_X8_putOn r_X8_putOn_93 rfl rfl rfl rfl ?_
          refine b_il (pc' := 97) (a := .inl s2) tb_X8_putOn r_X8_putOn_95 rfl rfl rfl ?_
          refine jn_in (R := fun (j116 : (Nat → Nat → RN)) => ∀ (s22 M23 : Nat), j116 s22 M23 = some r → SN l g D sl 2 0 q q 3 116 [(0, .inr (.inr (.inl 11))), (1, .inl a1), (3, .inl v1), (4, .inl s2), (6, .inl s5), (7, .inl v7), (8, .inl x9), (9, .inl x10), (10, .inl v20), (11, .inl v21)] [.inl s22] M23 (PR r)) h (fun s22 M23 h => ?_) (fun j116 hj116 h => ?_)
          · skip
            refine b_st (pc' := 118) [(12, .inl s22), (0, .inr (.inr (.inl 11))), (1, .inl a1), (3, .inl v1), (4, .inl s2), (6, .inl s5), (7, .inl v7), (8, .inl x9), (9, .inl x10), (10, .inl v20), (11, .inl v21)] tb_X8_putOn r_X8_putOn_116 rfl rfl rfl rfl ?_
            refine b_il (pc' := 120) (a := .inl s22) tb_X8_putOn r_X8_putOn_118 rfl rfl rfl ?_
            refine jn_in (R := fun (j143 : (Nat → Nat → RN)) => ∀ (s24 M25 : Nat), j143 s24 M25 = some r → SN l g D sl 2 0 q q 3 143 [(0, .inr (.inr (.inl 11))), (1, .inl a1), (3, .inl v1), (4, .inl s2), (6, .inl s5), (7, .inl v7), (8, .inl x9), (9, .inl x10), (10, .inl v20), (12, .inl s22)] [.inl s24] M25 (PR r)) h (fun s24 M25 h => ?_) (fun j143 hj143 h => ?_)
            · skip
              refine b_st (pc' := 145) [(13, .inl s24), (0, .inr (.inr (.inl 11))), (1, .inl a1), (3, .inl v1), (4, .inl s2), (6, .inl s5), (7, .inl v7), (8, .inl x9), (9, .inl x10), (10, .inl v20), (12, .inl s22)] tb_X8_putOn r_X8_putOn_143 rfl rfl rfl rfl ?_
              refine b_il (pc' := 147) (a := .inl v20) tb_X8_putOn r_X8_putOn_145 rfl rfl rfl ?_
              refine b_il (pc' := 149) (a := .inl s22) tb_X8_putOn r_X8_putOn_147 rfl rfl rfl ?_
              refine jn_in (R := fun (j157 : (Nat → Nat → Nat → RN)) => ∀ (s26 s27 M28 : Nat), j157 s26 s27 M28 = some r → SN l g D sl 2 0 q q 3 157 [(0, .inr (.inr (.inl 11))), (1, .inl a1), (3, .inl v1), (4, .inl s2), (6, .inl s5), (7, .inl v7), (8, .inl x9), (9, .inl x10), (13, .inl s24)] [.inl s26, .inl s27] M28 (PR r)) h (fun s26 s27 M28 h => ?_) (fun j157 hj157 h => ?_)
              · skip
                refine b_add (pc' := 158) tb_X8_putOn r_X8_putOn_157 rfl ?_
                obtain ⟨v29, ev29, h⟩ := fK_v h
                rw [ev29]
                refine b_st (pc' := 160) [(10, .inl v29), (0, .inr (.inr (.inl 11))), (1, .inl a1), (3, .inl v1), (4, .inl s2), (6, .inl s5), (7, .inl v7), (8, .inl x9), (9, .inl x10), (13, .inl s24)] tb_X8_putOn r_X8_putOn_158 rfl rfl rfl rfl ?_
                refine b_ic (pc' := 161) (0) tb_X8_putOn r_X8_putOn_160 rfl rfl ?_
                refine b_st (pc' := 163) [(14, .inl 0), (10, .inl v29), (0, .inr (.inr (.inl 11))), (1, .inl a1), (3, .inl v1), (4, .inl s2), (6, .inl s5), (7, .inl v7), (8, .inl x9), (9, .inl x10), (13, .inl s24)] tb_X8_putOn r_X8_putOn_161 rfl rfl rfl rfl ?_
                refine lp_in (R := fun (j163 : (Nat → Nat → Nat → Nat → RN)) => ∀ (x30 x31 x32 M33 : Nat), j163 x30 x31 x32 M33 = some r → SN l g D sl 2 0 q q 3 163 [(0, .inr (.inr (.inl 11))), (1, .inl a1), (3, .inl v1), (4, .inl s2), (6, .inl s5), (7, .inl v7), (8, .inl x30), (9, .inl x10), (10, .inl x31), (13, .inl s24), (14, .inl x32)] [] M33 (PR r)) h (fun _ _ _ _ h => by cases h) (fun j163 hj163 => ?_) (fun j163 hj163 h => ?_)
                · intro x30 x31 x32 M33 h
                  refine b_il (pc' := 165) (a := .inl x32) tb_X8_putOn r_X8_putOn_163 rfl rfl rfl ?_
                  refine b_il (pc' := 167) (a := .inl s24) tb_X8_putOn r_X8_putOn_165 rfl rfl rfl ?_
                  rcases bK_in h with ⟨c1, h⟩ | ⟨c1, h⟩
                  · refine b_icT (t := 296) tb_X8_putOn r_X8_putOn_167 rfl ((nGe_c _ _).symm.trans c1) ?_
                    refine b_inc (pc' := 299) (v := x10) (n := 1) [(9, .inl (oAdd x10 1)), (0, .inr (.inr (.inl 11))), (1, .inl a1), (3, .inl v1), (4, .inl s2), (6, .inl s5), (7, .inl v7), (8, .inl x30), (10, .inl x31), (13, .inl s24), (14, .inl x32)] tb_X8_putOn r_X8_putOn_296 rfl rfl rfl rfl rfl ?_
                    obtain ⟨v34, ev34, h⟩ := fK_v h
                    rw [ev34]
                    refine b_goto (pc' := 70) tb_X8_putOn r_X8_putOn_299 rfl ?_
                    refine b_sub9 [(0, .inr (.inr (.inl 11))), (1, .inl a1), (3, .inl v1), (4, .inl s2), (6, .inl s5), (7, .inl v7), (8, .inl x30), (9, .inl v34)] ⟨rfl, rfl, rfl, rfl, rfl, rfl, rfl, rfl, trivial⟩ ?_
                    exact hj70 _ _ _ h
                  · refine b_icF (t := 296) (pc' := 170) tb_X8_putOn r_X8_putOn_167 rfl ((nGe_c _ _).symm.trans c1) rfl ?_
                    refine b_il (pc' := 172) (a := .inl x30) tb_X8_putOn r_X8_putOn_170 rfl rfl rfl ?_
                    refine b_ic (pc' := 173) (5) tb_X8_putOn r_X8_putOn_172 rfl rfl ?_
                    rcases bK_in h with ⟨c1, h⟩ | ⟨c1, h⟩
                    · refine b_icT (t := 178) tb_X8_putOn r_X8_putOn_173 rfl ((nLt_c _ _).symm.trans c1) ?_
                      refine b_il (pc' := 180) (a := .inl x30) tb_X8_putOn r_X8_putOn_178 rfl rfl rfl ?_
                      refine b_st (pc' := 182) [(15, .inl x30), (0, .inr (.inr (.inl 11))), (1, .inl a1), (3, .inl v1), (4, .inl s2), (6, .inl s5), (7, .inl v7), (8, .inl x30), (9, .inl x10), (10, .inl x31), (13, .inl s24), (14, .inl x32)] tb_X8_putOn r_X8_putOn_180 rfl rfl rfl rfl ?_
                      refine lp_in (R := fun (j182 : (Nat → Nat → RN)) => ∀ (x35 M36 : Nat), j182 x35 M36 = some r → SN l g D sl 2 0 q q 3 182 [(0, .inr (.inr (.inl 11))), (1, .inl a1), (3, .inl v1), (4, .inl s2), (6, .inl s5), (7, .inl v7), (8, .inl x30), (9, .inl x10), (10, .inl x31), (13, .inl s24), (14, .inl x32), (15, .inl x35)] [] M36 (PR r)) h (fun _ _ h => by cases h) (fun j182 hj182 => ?_) (fun j182 hj182 h => ?_)
                      · intro x35 M36 h
                        refine b_il (pc' := 184) (a := .inl x35) tb_X8_putOn r_X8_putOn_182 rfl rfl rfl ?_
                        refine jn_in (R := fun (j253 : ( Nat → RN)) => ∀ (M37 : Nat), j253 M37 = some r → SN l g D sl 2 0 q q 3 253 [(0, .inr (.inr (.inl 11))), (1, .inl a1), (3, .inl v1), (4, .inl s2), (6, .inl s5), (7, .inl v7), (8, .inl x30), (9, .inl x10), (10, .inl x31), (13, .inl s24), (14, .inl x32), (15, .inl x35)] [] M37 (PR r)) h (fun M37 h => ?_) (fun j253 hj253 h => ?_)
                        · skip
                          refine b_aln (pc' := 254) (a := .inr (.inr (.inl 11))) tb_X8_putOn r_X8_putOn_253 rfl rfl rfl ?_
                          refine b_gr (pc' := 257) tb_X8_putOn r_X8_putOn_254 tF_11_8_5 rfl ?_
                          refine b_il (pc' := 259) (a := .inl x35) tb_X8_putOn r_X8_putOn_257 rfl rfl rfl ?_
                          refine b_il (pc' := 261) (a := .inl x31) tb_X8_putOn r_X8_putOn_259 rfl rfl rfl ?_
                          obtain ⟨M38, dM38, cM38, h⟩ := sK_in h
                          refine b_is (pc' := 262) tb_X8_putOn r_X8_putOn_261 tA_14 dM38 cM38 rfl ?_
                          refine b_aln (pc' := 263) (a := .inr (.inr (.inl 11))) tb_X8_putOn r_X8_putOn_262 rfl rfl rfl ?_
                          refine b_il (pc' := 265) (a := .inl x31) tb_X8_putOn r_X8_putOn_263 rfl rfl rfl ?_
                          obtain ⟨v40, M39, ov40, h⟩ := cI_in h
                          refine b_vI (pc' := 268) tb_X8_putOn r_X8_putOn_265 tb_X8_end mo_X8_end (by decide) rfl rfl ov40 (fun r hr => snd_X8_end hr) (by decide) rfl rfl rfl ?_
                          refine b_st (pc' := 270) [(10, .inl v40), (0, .inr (.inr (.inl 11))), (1, .inl a1), (3, .inl v1), (4, .inl s2), (6, .inl s5), (7, .inl v7), (8, .inl x30), (9, .inl x10), (13, .inl s24), (14, .inl x32), (15, .inl x35)] tb_X8_putOn r_X8_putOn_268 rfl rfl rfl rfl ?_
                          refine b_aln (pc' := 271) (a := .inr (.inr (.inl 11))) tb_X8_putOn r_X8_putOn_270 rfl rfl rfl ?_
                          refine b_gr (pc' := 274) tb_X8_putOn r_X8_putOn_271 tF_11_8_6 rfl ?_
                          refine b_il (pc' := 276) (a := .inl x35) tb_X8_putOn r_X8_putOn_274 rfl rfl rfl ?_
                          refine b_il (pc' := 278) (a := .inl v40) tb_X8_putOn r_X8_putOn_276 rfl rfl rfl ?_
                          refine b_aln (pc' := 279) (a := .inr (.inr (.inl 11))) tb_X8_putOn r_X8_putOn_278 rfl rfl rfl ?_
                          refine b_gr (pc' := 282) tb_X8_putOn r_X8_putOn_279 tF_11_8_5 rfl ?_
                          refine b_il (pc' := 284) (a := .inl x35) tb_X8_putOn r_X8_putOn_282 rfl rfl rfl ?_
                          obtain ⟨v41, dv41, cv41, h⟩ := lK_in h
                          refine b_ia (pc' := 285) tb_X8_putOn r_X8_putOn_284 tA_14 dv41 cv41 rfl ?_
                          refine b_sub (pc' := 286) tb_X8_putOn r_X8_putOn_285 rfl ?_
                          obtain ⟨M42, dM42, cM42, h⟩ := sK_in h
                          refine b_is (pc' := 287) tb_X8_putOn r_X8_putOn_286 tA_15 dM42 cM42 rfl ?_
                          refine b_inc (pc' := 290) (v := x30) (n := 1) [(8, .inl (oAdd x30 1)), (10, .inl v40), (0, .inr (.inr (.inl 11))), (1, .inl a1), (3, .inl v1), (4, .inl s2), (6, .inl s5), (7, .inl v7), (9, .inl x10), (13, .inl s24), (14, .inl x32), (15, .inl x35)] tb_X8_putOn r_X8_putOn_287 rfl rfl rfl rfl rfl ?_
                          obtain ⟨v43, ev43, h⟩ := fK_v h
                          rw [ev43]
                          refine b_inc (pc' := 293) (v := x32) (n := 1) [(14, .inl (oAdd x32 1)), (8, .inl v43), (10, .inl v40), (0, .inr (.inr (.inl 11))), (1, .inl a1), (3, .inl v1), (4, .inl s2), (6, .inl s5), (7, .inl v7), (9, .inl x10), (13, .inl s24), (15, .inl x35)] tb_X8_putOn r_X8_putOn_290 rfl rfl rfl rfl rfl ?_
                          obtain ⟨v44, ev44, h⟩ := fK_v h
                          rw [ev44]
                          refine b_goto (pc' := 163) tb_X8_putOn r_X8_putOn_293 rfl ?_
                          refine b_sub9 [(0, .inr (.inr (.inl 11))), (1, .inl a1), (3, .inl v1), (4, .inl s2), (6, .inl s5), (7, .inl v7), (8, .inl v43), (9, .inl x10), (10, .inl v40), (13, .inl s24), (14, .inl v44)] ⟨rfl, rfl, rfl, rfl, rfl, rfl, rfl, rfl, rfl, rfl, rfl, trivial⟩ ?_
                          exact hj163 _ _ _ _ h
                        rcases bK_in h with ⟨c1, h⟩ | ⟨c1, h⟩
                        · refine b_ifT (t := 253) tb_X8_putOn r_X8_putOn_184 rfl ((zLe_c _).symm.trans c1) ?_
                          exact hj253 _ h
                        · refine b_ifF (t := 253) (pc' := 187) tb_X8_putOn r_X8_putOn_184 rfl ((zLe_c _).symm.trans c1) rfl ?_
                          refine b_iln (pc' := 188) (a := .inl v1) tb_X8_putOn r_X8_putOn_187 rfl rfl rfl ?_
                          refine b_ic (pc' := 189) (1) tb_X8_putOn r_X8_putOn_188 rfl rfl ?_
                          refine jn_in (R := fun (j197 : ( Nat → RN)) => ∀ (M45 : Nat), j197 M45 = some r → SN l g D sl 2 0 q q 3 197 [(0, .inr (.inr (.inl 11))), (1, .inl a1), (3, .inl v1), (4, .inl s2), (6, .inl s5), (7, .inl v7), (8, .inl x30), (9, .inl x10), (10, .inl x31), (13, .inl s24), (14, .inl x32), (15, .inl x35)] [] M45 (PR r)) h (fun M45 h => ?_) (fun j197 hj197 h => ?_)
                          · skip
                            refine b_aln (pc' := 198) (a := .inr (.inr (.inl 11))) tb_X8_putOn r_X8_putOn_197 rfl rfl rfl ?_
                            refine b_il (pc' := 200) (a := .inl x31) tb_X8_putOn r_X8_putOn_198 rfl rfl rfl ?_
                            refine b_aln (pc' := 201) (a := .inr (.inr (.inl 11))) tb_X8_putOn r_X8_putOn_200 rfl rfl rfl ?_
                            refine b_gr (pc' := 204) tb_X8_putOn r_X8_putOn_201 tF_11_8_5 rfl ?_
                            refine b_il (pc' := 206) (a := .inl x35) tb_X8_putOn r_X8_putOn_204 rfl rfl rfl ?_
                            refine b_ic (pc' := 207) (1) tb_X8_putOn r_X8_putOn_206 rfl rfl ?_
                            refine b_sub (pc' := 208) tb_X8_putOn r_X8_putOn_207 rfl ?_
                            obtain ⟨v46, ev46, h⟩ := fK_v h
                            rw [ev46]
                            obtain ⟨v47, dv47, cv47, h⟩ := lK_in h
                            refine b_ia (pc' := 209) tb_X8_putOn r_X8_putOn_208 tA_14 dv47 cv47 rfl ?_
                            obtain ⟨v49, M48, ov49, h⟩ := cI_in h
                            refine b_vI (pc' := 212) tb_X8_putOn r_X8_putOn_209 tb_X8_order mo_X8_order (by decide) rfl rfl ov49 (fun r hr => snd_X8_order hr) (by decide) rfl rfl rfl ?_
                            rcases bK_in h with ⟨c1, h⟩ | ⟨c1, h⟩
                            · refine b_ifT (t := 253) tb_X8_putOn r_X8_putOn_212 rfl ((zGe_c _).symm.trans c1) ?_
                              exact hj253 _ h
                            · refine b_ifF (t := 253) (pc' := 215) tb_X8_putOn r_X8_putOn_212 rfl ((zGe_c _).symm.trans c1) rfl ?_
                              refine b_aln (pc' := 216) (a := .inr (.inr (.inl 11))) tb_X8_putOn r_X8_putOn_215 rfl rfl rfl ?_
                              refine b_gr (pc' := 219) tb_X8_putOn r_X8_putOn_216 tF_11_8_5 rfl ?_
                              refine b_il (pc' := 221) (a := .inl x35) tb_X8_putOn r_X8_putOn_219 rfl rfl rfl ?_
                              refine b_aln (pc' := 222) (a := .inr (.inr (.inl 11))) tb_X8_putOn r_X8_putOn_221 rfl rfl rfl ?_
                              refine b_gr (pc' := 225) tb_X8_putOn r_X8_putOn_222 tF_11_8_5 rfl ?_
                              refine b_il (pc' := 227) (a := .inl x35) tb_X8_putOn r_X8_putOn_225 rfl rfl rfl ?_
                              refine b_ic (pc' := 228) (1) tb_X8_putOn r_X8_putOn_227 rfl rfl ?_
                              refine b_sub (pc' := 229) tb_X8_putOn r_X8_putOn_228 rfl ?_
                              obtain ⟨v50, ev50, h⟩ := fK_v h
                              rw [ev50]
                              obtain ⟨v51, dv51, cv51, h⟩ := lK_in h
                              refine b_ia (pc' := 230) tb_X8_putOn r_X8_putOn_229 tA_14 dv51 cv51 rfl ?_
                              obtain ⟨M52, dM52, cM52, h⟩ := sK_in h
                              refine b_is (pc' := 231) tb_X8_putOn r_X8_putOn_230 tA_14 dM52 cM52 rfl ?_
                              refine b_aln (pc' := 232) (a := .inr (.inr (.inl 11))) tb_X8_putOn r_X8_putOn_231 rfl rfl rfl ?_
                              refine b_gr (pc' := 235) tb_X8_putOn r_X8_putOn_232 tF_11_8_6 rfl ?_
                              refine b_il (pc' := 237) (a := .inl x35) tb_X8_putOn r_X8_putOn_235 rfl rfl rfl ?_
                              refine b_aln (pc' := 238) (a := .inr (.inr (.inl 11))) tb_X8_putOn r_X8_putOn_237 rfl rfl rfl ?_
                              refine b_gr (pc' := 241) tb_X8_putOn r_X8_putOn_238 tF_11_8_6 rfl ?_
                              refine b_il (pc' := 243) (a := .inl x35) tb_X8_putOn r_X8_putOn_241 rfl rfl rfl ?_
                              refine b_ic (pc' := 244) (1) tb_X8_putOn r_X8_putOn_243 rfl rfl ?_
                              refine b_sub (pc' := 245) tb_X8_putOn r_X8_putOn_244 rfl ?_
                              obtain ⟨v53, ev53, h⟩ := fK_v h
                              rw [ev53]
                              obtain ⟨v54, dv54, cv54, h⟩ := lK_in h
                              refine b_ia (pc' := 246) tb_X8_putOn r_X8_putOn_245 tA_15 dv54 cv54 rfl ?_
                              obtain ⟨M55, dM55, cM55, h⟩ := sK_in h
                              refine b_is (pc' := 247) tb_X8_putOn r_X8_putOn_246 tA_15 dM55 cM55 rfl ?_
                              refine b_inc (pc' := 250) (v := x35) (n := 4294967295) [(15, .inl (oAdd x35 4294967295)), (0, .inr (.inr (.inl 11))), (1, .inl a1), (3, .inl v1), (4, .inl s2), (6, .inl s5), (7, .inl v7), (8, .inl x30), (9, .inl x10), (10, .inl x31), (13, .inl s24), (14, .inl x32)] tb_X8_putOn r_X8_putOn_247 rfl rfl rfl rfl rfl ?_
                              obtain ⟨v56, ev56, h⟩ := fK_v h
                              rw [ev56]
                              refine b_goto (pc' := 182) tb_X8_putOn r_X8_putOn_250 rfl ?_
                              refine b_sub9 [(0, .inr (.inr (.inl 11))), (1, .inl a1), (3, .inl v1), (4, .inl s2), (6, .inl s5), (7, .inl v7), (8, .inl x30), (9, .inl x10), (10, .inl x31), (13, .inl s24), (14, .inl x32), (15, .inl v56)] ⟨rfl, rfl, rfl, rfl, rfl, rfl, rfl, rfl, rfl, rfl, rfl, rfl, trivial⟩ ?_
                              exact hj182 _ _ h
                          rcases bK_in h with ⟨c1, h⟩ | ⟨c1, h⟩
                          · refine b_icT (t := 197) tb_X8_putOn r_X8_putOn_189 rfl ((nEq_c _ _).symm.trans c1) ?_
                            exact hj197 _ h
                          · refine b_icF (t := 197) (pc' := 192) tb_X8_putOn r_X8_putOn_189 rfl ((nEq_c _ _).symm.trans c1) rfl ?_
                            refine b_iln (pc' := 193) (a := .inl v1) tb_X8_putOn r_X8_putOn_192 rfl rfl rfl ?_
                            refine b_ic (pc' := 194) (3) tb_X8_putOn r_X8_putOn_193 rfl rfl ?_
                            rcases bK_in h with ⟨c1, h⟩ | ⟨c1, h⟩
                            · refine b_icT (t := 253) tb_X8_putOn r_X8_putOn_194 rfl ((nNe_c _ _).symm.trans c1) ?_
                              exact hj253 _ h
                            · refine b_icF (t := 253) (pc' := 197) tb_X8_putOn r_X8_putOn_194 rfl ((nNe_c _ _).symm.trans c1) rfl ?_
                              exact hj197 _ h
                      refine b_sub9 [(0, .inr (.inr (.inl 11))), (1, .inl a1), (3, .inl v1), (4, .inl s2), (6, .inl s5), (7, .inl v7), (8, .inl x30), (9, .inl x10), (10, .inl x31), (13, .inl s24), (14, .inl x32), (15, .inl x30)] ⟨rfl, rfl, rfl, rfl, rfl, rfl, rfl, rfl, rfl, rfl, rfl, rfl, trivial⟩ ?_
                      exact hj182 _ _ h
                    · refine b_icF (t := 178) (pc' := 176) tb_X8_putOn r_X8_putOn_173 rfl ((nLt_c _ _).symm.trans c1) rfl ?_
                      refine b_ic (pc' := 177) (4294967295) tb_X8_putOn r_X8_putOn_176 rfl rfl ?_
                      exact b_ri tb_X8_putOn r_X8_putOn_177 rfl (sj h).symm
                refine b_sub9 [(0, .inr (.inr (.inl 11))), (1, .inl a1), (3, .inl v1), (4, .inl s2), (6, .inl s5), (7, .inl v7), (8, .inl x9), (9, .inl x10), (10, .inl v29), (13, .inl s24), (14, .inl 0)] ⟨rfl, rfl, rfl, rfl, rfl, rfl, rfl, rfl, rfl, rfl, rfl, trivial⟩ ?_
                exact hj163 _ _ _ _ h
              rcases bK_in h with ⟨c1, h⟩ | ⟨c1, h⟩
              · refine b_ifT (t := 156) tb_X8_putOn r_X8_putOn_149 rfl ((zEq_c _).symm.trans c1) ?_
                refine b_ic (pc' := 157) (0) tb_X8_putOn r_X8_putOn_156 rfl rfl ?_
                refine b_sub9 [(0, .inr (.inr (.inl 11))), (1, .inl a1), (3, .inl v1), (4, .inl s2), (6, .inl s5), (7, .inl v7), (8, .inl x9), (9, .inl x10), (13, .inl s24)] ⟨rfl, rfl, rfl, rfl, rfl, rfl, rfl, rfl, rfl, trivial⟩ ?_
                exact hj157 _ _ _ h
              · refine b_ifF (t := 156) (pc' := 152) tb_X8_putOn r_X8_putOn_149 rfl ((zEq_c _).symm.trans c1) rfl ?_
                refine b_ic (pc' := 153) (1) tb_X8_putOn r_X8_putOn_152 rfl rfl ?_
                refine b_goto (pc' := 157) tb_X8_putOn r_X8_putOn_153 rfl ?_
                refine b_sub9 [(0, .inr (.inr (.inl 11))), (1, .inl a1), (3, .inl v1), (4, .inl s2), (6, .inl s5), (7, .inl v7), (8, .inl x9), (9, .inl x10), (13, .inl s24)] ⟨rfl, rfl, rfl, rfl, rfl, rfl, rfl, rfl, rfl, trivial⟩ ?_
                exact hj157 _ _ _ h
            rcases bK_in h with ⟨c1, h⟩ | ⟨c1, h⟩
            · refine b_ifT (t := 131) tb_X8_putOn r_X8_putOn_120 rfl ((zEq_c _).symm.trans c1) ?_
              refine b_il (pc' := 133) (a := .inl v21) tb_X8_putOn r_X8_putOn_131 rfl rfl rfl ?_
              refine b_il (pc' := 135) (a := .inl s5) tb_X8_putOn r_X8_putOn_133 rfl rfl rfl ?_
              rcases bK_in h with ⟨c1, h⟩ | ⟨c1, h⟩
              · refine b_icT (t := 142) tb_X8_putOn r_X8_putOn_135 rfl ((nNe_c _ _).symm.trans c1) ?_
                refine b_ic (pc' := 143) (1) tb_X8_putOn r_X8_putOn_142 rfl rfl ?_
                refine b_sub9 [(0, .inr (.inr (.inl 11))), (1, .inl a1), (3, .inl v1), (4, .inl s2), (6, .inl s5), (7, .inl v7), (8, .inl x9), (9, .inl x10), (10, .inl v20), (12, .inl s22)] ⟨rfl, rfl, rfl, rfl, rfl, rfl, rfl, rfl, rfl, rfl, trivial⟩ ?_
                exact hj143 _ _ h
              · refine b_icF (t := 142) (pc' := 138) tb_X8_putOn r_X8_putOn_135 rfl ((nNe_c _ _).symm.trans c1) rfl ?_
                refine b_ic (pc' := 139) (0) tb_X8_putOn r_X8_putOn_138 rfl rfl ?_
                refine b_goto (pc' := 143) tb_X8_putOn r_X8_putOn_139 rfl ?_
                refine b_sub9 [(0, .inr (.inr (.inl 11))), (1, .inl a1), (3, .inl v1), (4, .inl s2), (6, .inl s5), (7, .inl v7), (8, .inl x9), (9, .inl x10), (10, .inl v20), (12, .inl s22)] ⟨rfl, rfl, rfl, rfl, rfl, rfl, rfl, rfl, rfl, rfl, trivial⟩ ?_
                exact hj143 _ _ h
            · refine b_ifF (t := 131) (pc' := 123) tb_X8_putOn r_X8_putOn_120 rfl ((zEq_c _).symm.trans c1) rfl ?_
              refine b_il (pc' := 125) (a := .inl v21) tb_X8_putOn r_X8_putOn_123 rfl rfl rfl ?_
              refine b_bi (pc' := 127) (8) tb_X8_putOn r_X8_putOn_125 rfl rfl rfl ?_
              obtain ⟨v57, c1, c2, c3, ev57, h⟩ := dvK_in h
              refine b_rem (pc' := 128) tb_X8_putOn r_X8_putOn_127 c1 c2 c3 ev57 rfl ?_
              refine b_goto (pc' := 143) tb_X8_putOn r_X8_putOn_128 rfl ?_
              refine b_sub9 [(0, .inr (.inr (.inl 11))), (1, .inl a1), (3, .inl v1), (4, .inl s2), (6, .inl s5), (7, .inl v7), (8, .inl x9), (9, .inl x10), (10, .inl v20), (12, .inl s22)] ⟨rfl, rfl, rfl, rfl, rfl, rfl, rfl, rfl, rfl, rfl, trivial⟩ ?_
              exact hj143 _ _ h
          refine jn_in (R := fun (j115 : ( Nat → RN)) => ∀ (M58 : Nat), j115 M58 = some r → SN l g D sl 2 0 q q 3 115 [(0, .inr (.inr (.inl 11))), (1, .inl a1), (3, .inl v1), (4, .inl s2), (6, .inl s5), (7, .inl v7), (8, .inl x9), (9, .inl x10), (10, .inl v20), (11, .inl v21)] [] M58 (PR r)) h (fun M58 h => ?_) (fun j115 hj115 h => ?_)
          · skip
            refine b_ic (pc' := 116) (0) tb_X8_putOn r_X8_putOn_115 rfl rfl ?_
            exact hj116 _ _ h
          rcases bK_in h with ⟨c1, h⟩ | ⟨c1, h⟩
          · refine b_ifT (t := 115) tb_X8_putOn r_X8_putOn_97 rfl ((zEq_c _).symm.trans c1) ?_
            refine b_sub9 [(0, .inr (.inr (.inl 11))), (1, .inl a1), (3, .inl v1), (4, .inl s2), (6, .inl s5), (7, .inl v7), (8, .inl x9), (9, .inl x10), (10, .inl v20), (11, .inl v21)] ⟨rfl, rfl, rfl, rfl, rfl, rfl, rfl, rfl, rfl, rfl, trivial⟩ ?_
            exact hj115 _ h
          · refine b_ifF (t := 115) (pc' := 100) tb_X8_putOn r_X8_putOn_97 rfl ((zEq_c _).symm.trans c1) rfl ?_
            refine b_il (pc' := 102) (a := .inl v21) tb_X8_putOn r_X8_putOn_100 rfl rfl rfl ?_
            refine b_bi (pc' := 104) (8) tb_X8_putOn r_X8_putOn_102 rfl rfl rfl ?_
            obtain ⟨v59, c1, c2, c3, ev59, h⟩ := dvK_in h
            refine b_div (pc' := 105) tb_X8_putOn r_X8_putOn_104 c1 c2 c3 ev59 rfl ?_
            refine b_ic (pc' := 106) (4) tb_X8_putOn r_X8_putOn_105 rfl rfl ?_
            refine b_sub (pc' := 107) tb_X8_putOn r_X8_putOn_106 rfl ?_
            refine b_iln (pc' := 108) (a := .inl a1) tb_X8_putOn r_X8_putOn_107 rfl rfl rfl ?_
            rcases bK_in h with ⟨c1, h⟩ | ⟨c1, h⟩
            · refine b_icT (t := 115) tb_X8_putOn r_X8_putOn_108 rfl ((nNe_c _ _).symm.trans c1) ?_
              refine b_sub9 [(0, .inr (.inr (.inl 11))), (1, .inl a1), (3, .inl v1), (4, .inl s2), (6, .inl s5), (7, .inl v7), (8, .inl x9), (9, .inl x10), (10, .inl v20), (11, .inl v21)] ⟨rfl, rfl, rfl, rfl, rfl, rfl, rfl, rfl, rfl, rfl, trivial⟩ ?_
              exact hj115 _ h
            · refine b_icF (t := 115) (pc' := 111) tb_X8_putOn r_X8_putOn_108 rfl ((nNe_c _ _).symm.trans c1) rfl ?_
              refine b_ic (pc' := 112) (1) tb_X8_putOn r_X8_putOn_111 rfl rfl ?_
              refine b_goto (pc' := 116) tb_X8_putOn r_X8_putOn_112 rfl ?_
              refine b_sub9 [(0, .inr (.inr (.inl 11))), (1, .inl a1), (3, .inl v1), (4, .inl s2), (6, .inl s5), (7, .inl v7), (8, .inl x9), (9, .inl x10), (10, .inl v20), (11, .inl v21)] ⟨rfl, rfl, rfl, rfl, rfl, rfl, rfl, rfl, rfl, rfl, trivial⟩ ?_
              exact hj116 _ _ h
      refine b_sub9 [(0, .inr (.inr (.inl 11))), (1, .inl a1), (3, .inl v1), (4, .inl s2), (6, .inl s5), (7, .inl v7), (8, .inl 0), (9, .inl a2)] ⟨rfl, rfl, rfl, rfl, rfl, rfl, rfl, rfl, trivial⟩ ?_
      exact hj70 _ _ _ h
    rcases bK_in h with ⟨c1, h⟩ | ⟨c1, h⟩
    · refine b_icT (t := 43) tb_X8_putOn r_X8_putOn_36 rfl ((nNe_c _ _).symm.trans c1) ?_
      refine b_bi (pc' := 45) (32) tb_X8_putOn r_X8_putOn_43 rfl rfl rfl ?_
      refine b_il (pc' := 47) (a := .inl v4) tb_X8_putOn r_X8_putOn_45 rfl rfl rfl ?_
      refine b_bi (pc' := 49) (8) tb_X8_putOn r_X8_putOn_47 rfl rfl rfl ?_
      refine b_mul (pc' := 50) tb_X8_putOn r_X8_putOn_49 rfl ?_
      refine b_add (pc' := 51) tb_X8_putOn r_X8_putOn_50 rfl ?_
      obtain ⟨v60, ev60, h⟩ := fK_v h
      rw [ev60]
      refine b_sub9 [(0, .inr (.inr (.inl 11))), (1, .inl a1), (2, .inl a2), (3, .inl v1), (4, .inl s2)] ⟨rfl, rfl, rfl, rfl, rfl, trivial⟩ ?_
      exact hj51 _ _ h
    · refine b_icF (t := 43) (pc' := 39) tb_X8_putOn r_X8_putOn_36 rfl ((nNe_c _ _).symm.trans c1) rfl ?_
      refine b_ic (pc' := 40) (4294967295) tb_X8_putOn r_X8_putOn_39 rfl rfl ?_
      refine b_goto (pc' := 51) tb_X8_putOn r_X8_putOn_40 rfl ?_
      refine b_sub9 [(0, .inr (.inr (.inl 11))), (1, .inl a1), (2, .inl a2), (3, .inl v1), (4, .inl s2)] ⟨rfl, rfl, rfl, rfl, rfl, trivial⟩ ?_
      exact hj51 _ _ h
  rcases bK_in h with ⟨c1, h⟩ | ⟨c1, h⟩
  · refine b_icT (t := 19) tb_X8_putOn r_X8_putOn_12 rfl ((nLt_c _ _).symm.trans c1) ?_
    refine b_ic (pc' := 20) (0) tb_X8_putOn r_X8_putOn_19 rfl rfl ?_
    refine b_sub9 [(0, .inr (.inr (.inl 11))), (1, .inl a1), (2, .inl a2), (3, .inl v1)] ⟨rfl, rfl, rfl, rfl, trivial⟩ ?_
    exact hj20 _ _ h
  · refine b_icF (t := 19) (pc' := 15) tb_X8_putOn r_X8_putOn_12 rfl ((nLt_c _ _).symm.trans c1) rfl ?_
    refine b_ic (pc' := 16) (1) tb_X8_putOn r_X8_putOn_15 rfl rfl ?_
    refine b_goto (pc' := 20) tb_X8_putOn r_X8_putOn_16 rfl ?_
    refine b_sub9 [(0, .inr (.inr (.inl 11))), (1, .inl a1), (2, .inl a2), (3, .inl v1)] ⟨rfl, rfl, rfl, rfl, trivial⟩ ?_
    exact hj20 _ _ h
noncomputable def m_X10_stackAt (a0 : Nat) (M0 : Nat) : RN :=
  some (Nat.add (oAdd 20 (oMul a0 20)) 2, M0)
set_option maxRecDepth 100000 in
theorem snd_X10_stackAt {l : Launch} {g : GV} {D : va_G} {sl q : Nat} {a0 M0 : Nat} {r : Nat × Nat} (h : m_X10_stackAt a0 M0 = some r) : SN l g D sl 1 0 q q 17 0 [(0, .inl a0)] [] M0 (PR r) := by
  unfold m_X10_stackAt at h
  refine b_bi (pc' := 2) (20) tb_X10_stackAt r_X10_stackAt_0 rfl rfl rfl ?_
  refine b_iln (pc' := 3) (a := .inl a0) tb_X10_stackAt r_X10_stackAt_2 rfl rfl rfl ?_
  refine b_bi (pc' := 5) (20) tb_X10_stackAt r_X10_stackAt_3 rfl rfl rfl ?_
  refine b_mul (pc' := 6) tb_X10_stackAt r_X10_stackAt_5 rfl ?_
  refine b_add (pc' := 7) tb_X10_stackAt r_X10_stackAt_6 rfl ?_
  exact b_ri tb_X10_stackAt r_X10_stackAt_7 rfl (sj h).symm
noncomputable def m_X8_store (a1 a2 : Nat) (M0 : Nat) : RN :=
  cI (m_X8_end a1 M0) (fun v2 M1 => fK (oSub v2 a1) (fun v3 => cpK M1 281 780 7500 7656 a1 a2 v3 (fun M4 => some (1, M4))))
set_option maxRecDepth 100000 in
theorem snd_X8_store {l : Launch} {g : GV} {D : va_G} {sl q : Nat} {a1 a2 M0 : Nat} {r : Nat × Nat} (h : m_X8_store a1 a2 M0 = some r) : SN l g D sl 2 0 q q 14 0 [(0, .inr (.inr (.inl 11))), (1, .inl a1), (2, .inl a2)] [] M0 (PR r) := by
  unfold m_X8_store at h
  refine b_aln (pc' := 1) (a := .inr (.inr (.inl 11))) tb_X8_store r_X8_store_0 rfl rfl rfl ?_
  refine b_gr (pc' := 4) tb_X8_store r_X8_store_1 tF_11_8_1 rfl ?_
  refine b_iln (pc' := 5) (a := .inl a1) tb_X8_store r_X8_store_4 rfl rfl rfl ?_
  refine b_aln (pc' := 6) (a := .inr (.inr (.inl 11))) tb_X8_store r_X8_store_5 rfl rfl rfl ?_
  refine b_gr (pc' := 9) tb_X8_store r_X8_store_6 tF_11_8_1 rfl ?_
  refine b_iln (pc' := 10) (a := .inl a2) tb_X8_store r_X8_store_9 rfl rfl rfl ?_
  refine b_aln (pc' := 11) (a := .inr (.inr (.inl 11))) tb_X8_store r_X8_store_10 rfl rfl rfl ?_
  refine b_iln (pc' := 12) (a := .inl a1) tb_X8_store r_X8_store_11 rfl rfl rfl ?_
  obtain ⟨v2, M1, ov2, h⟩ := cI_in h
  refine b_vI (pc' := 15) tb_X8_store r_X8_store_12 tb_X8_end mo_X8_end (by decide) rfl rfl ov2 (fun r hr => snd_X8_end hr) (by decide) rfl rfl rfl ?_
  refine b_iln (pc' := 16) (a := .inl a1) tb_X8_store r_X8_store_15 rfl rfl rfl ?_
  refine b_sub (pc' := 17) tb_X8_store r_X8_store_16 rfl ?_
  obtain ⟨v3, ev3, h⟩ := fK_v h
  rw [ev3]
  obtain ⟨M4, _, _, dM4, fM4, cM4, h⟩ := cpK_in h
  refine b_cp (pc' := 20) tb_X8_store r_X8_store_17 tA_12 rfl dM4 fM4 cM4 rfl ?_
  exact b_vo tb_X8_store r_X8_store_20 (sj h).symm
