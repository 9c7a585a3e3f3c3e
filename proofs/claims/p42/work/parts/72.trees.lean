/-! more of them -/
noncomputable def m_X10_hasPatternAndSubject (M0 : Nat) : RN :=
  rK M0 0 (fun v1 => bK (nLe v1 1) none (rK M0 0 (fun v2 => fK (oSub v2 2) (fun v3 => cI (m_X10_stackAt v3 M0) (fun v5 M4 => cI (m_X8_canBePattern v5 M4) (fun v7 M6 => bK (zEq v7) none (rbK 1 M6)))))))
set_option maxRecDepth 100000 in
theorem snd_X10_hasPatternAndSubject {l : Launch} {g : GV} {D : va_G} {sl q : Nat} {M0 : Nat} {r : Nat × Nat} (h : m_X10_hasPatternAndSubject M0 = some r) : SN l g D sl 4 0 q q 85 0 [(0, .inr (.inr (.inl 0)))] [] M0 (PR r) := by
  unfold m_X10_hasPatternAndSubject at h
  refine b_aln (pc' := 1) (a := .inr (.inr (.inl 0))) tb_X10_hasPatternAndSubject r_X10_hasPatternAndSubject_0 rfl rfl rfl ?_
  obtain ⟨v1, cv1, h⟩ := rK_in h
  refine b_gi (pc' := 4) tb_X10_hasPatternAndSubject r_X10_hasPatternAndSubject_1 tF_0_10_8 cv1 rfl ?_
  refine b_ic (pc' := 5) (1) tb_X10_hasPatternAndSubject r_X10_hasPatternAndSubject_4 rfl rfl ?_
  obtain ⟨c1, h⟩ := bK_f h
  refine b_icF (t := 31) (pc' := 8) tb_X10_hasPatternAndSubject r_X10_hasPatternAndSubject_5 rfl ((nLe_c _ _).symm.trans c1) rfl ?_
  refine b_aln (pc' := 9) (a := .inr (.inr (.inl 0))) tb_X10_hasPatternAndSubject r_X10_hasPatternAndSubject_8 rfl rfl rfl ?_
  refine b_gr (pc' := 12) tb_X10_hasPatternAndSubject r_X10_hasPatternAndSubject_9 tF_0_10_1 rfl ?_
  refine b_aln (pc' := 13) (a := .inr (.inr (.inl 0))) tb_X10_hasPatternAndSubject r_X10_hasPatternAndSubject_12 rfl rfl rfl ?_
  obtain ⟨v2, cv2, h⟩ := rK_in h
  refine b_gi (pc' := 16) tb_X10_hasPatternAndSubject r_X10_hasPatternAndSubject_13 tF_0_10_8 cv2 rfl ?_
  refine b_ic (pc' := 17) (2) tb_X10_hasPatternAndSubject r_X10_hasPatternAndSubject_16 rfl rfl ?_
  refine b_sub (pc' := 18) tb_X10_hasPatternAndSubject r_X10_hasPatternAndSubject_17 rfl ?_
  obtain ⟨v3, ev3, h⟩ := fK_v h
  rw [ev3]
  obtain ⟨v5, M4, ov5, h⟩ := cI_in h
  refine b_sI (pc' := 21) tb_X10_hasPatternAndSubject r_X10_hasPatternAndSubject_18 tb_X10_stackAt mo_X10_stackAt (by decide) rfl rfl ov5 (fun r hr => snd_X10_stackAt hr) (by decide) rfl rfl rfl ?_
  obtain ⟨v7, M6, ov7, h⟩ := cI_in h
  refine b_vI (pc' := 24) tb_X10_hasPatternAndSubject r_X10_hasPatternAndSubject_21 tb_X8_canBePattern mo_X8_canBePattern (by decide) rfl rfl ov7 (fun r hr => snd_X8_canBePattern hr) (by decide) rfl rfl rfl ?_
  obtain ⟨c1, h⟩ := bK_f h
  refine b_ifF (t := 31) (pc' := 27) tb_X10_hasPatternAndSubject r_X10_hasPatternAndSubject_24 rfl ((zEq_c _).symm.trans c1) rfl ?_
  refine b_ic (pc' := 28) (1) tb_X10_hasPatternAndSubject r_X10_hasPatternAndSubject_27 rfl rfl ?_
  refine b_goto (pc' := 32) tb_X10_hasPatternAndSubject r_X10_hasPatternAndSubject_28 rfl ?_
  obtain ⟨c1, h⟩ := rbK_in h
  exact b_rb tb_X10_hasPatternAndSubject r_X10_hasPatternAndSubject_32 rfl c1 h
noncomputable def m_X4_add (a1 a2 a3 a4 : Nat) (M0 : Nat) : RN :=
  rK M0 1349 (fun v1 => bK (nLt v1 256) (rK M0 1349 (fun v17 => sK M0 1352 33 v17 a1 (fun M18 => rK M18 1349 (fun v19 => sK M18 1385 33 v19 a2 (fun M20 => rK M20 1349 (fun v21 => lK2 M20 281 780 7500 7656 a1 (fun v22 => dvK Nat.div v22 8 (fun v23 => sK M20 1418 33 v21 (oSub v23 4) (fun M24 => rK M24 1349 (fun v25 => sK M24 1451 33 v25 a3 (fun M26 => rK M26 1349 (fun v27 => sK M26 1484 33 v27 a4 (fun M28 => rK M28 1349 (fun v29 => pK M28 1349 (oAdd v29 1) (fun M30 => rK M30 1349 (fun v31 => some (Nat.add (oSub v31 1) 2, M30))))))))))))))))) none)
set_option maxRecDepth 100000 in
theorem snd_X4_add {l : Launch} {g : GV} {D : va_G} {sl q : Nat} {a1 a2 a3 a4 M0 : Nat} {r : Nat × Nat} (h : m_X4_add a1 a2 a3 a4 M0 = some r) : SN l g D sl 1 0 q q 55 0 [(0, .inr (.inr (.inl 28))), (1, .inl a1), (2, .inl a2), (3, .inl a3), (4, .inl a4)] [] M0 (PR r) := by
  unfold m_X4_add at h
  refine b_aln (pc' := 1) (a := .inr (.inr (.inl 28))) tb_X4_add r_X4_add_0 rfl rfl rfl ?_
  obtain ⟨v1, cv1, h⟩ := rK_in h
  refine b_gi (pc' := 4) tb_X4_add r_X4_add_1 tF_28_4_2 cv1 rfl ?_
  refine b_si (pc' := 7) (256) tb_X4_add r_X4_add_4 rfl rfl rfl ?_
  obtain ⟨c1, h⟩ := bK_t h
  refine b_icT (t := 12) tb_X4_add r_X4_add_7 rfl ((nLt_c _ _).symm.trans c1) ?_
  refine b_aln (pc' := 13) (a := .inr (.inr (.inl 28))) tb_X4_add r_X4_add_12 rfl rfl rfl ?_
  refine b_gr (pc' := 16) tb_X4_add r_X4_add_13 tF_28_4_3 rfl ?_
  refine b_aln (pc' := 17) (a := .inr (.inr (.inl 28))) tb_X4_add r_X4_add_16 rfl rfl rfl ?_
  obtain ⟨v17, cv17, h⟩ := rK_in h
  refine b_gi (pc' := 20) tb_X4_add r_X4_add_17 tF_28_4_2 cv17 rfl ?_
  refine b_iln (pc' := 21) (a := .inl a1) tb_X4_add r_X4_add_20 rfl rfl rfl ?_
  obtain ⟨M18, dM18, cM18, h⟩ := sK_in h
  refine b_is (pc' := 22) tb_X4_add r_X4_add_21 tA_29 dM18 cM18 rfl ?_
  refine b_aln (pc' := 23) (a := .inr (.inr (.inl 28))) tb_X4_add r_X4_add_22 rfl rfl rfl ?_
  refine b_gr (pc' := 26) tb_X4_add r_X4_add_23 tF_28_4_4 rfl ?_
  refine b_aln (pc' := 27) (a := .inr (.inr (.inl 28))) tb_X4_add r_X4_add_26 rfl rfl rfl ?_
  obtain ⟨v19, cv19, h⟩ := rK_in h
  refine b_gi (pc' := 30) tb_X4_add r_X4_add_27 tF_28_4_2 cv19 rfl ?_
  refine b_iln (pc' := 31) (a := .inl a2) tb_X4_add r_X4_add_30 rfl rfl rfl ?_
  obtain ⟨M20, dM20, cM20, h⟩ := sK_in h
  refine b_is (pc' := 32) tb_X4_add r_X4_add_31 tA_30 dM20 cM20 rfl ?_
  refine b_aln (pc' := 33) (a := .inr (.inr (.inl 28))) tb_X4_add r_X4_add_32 rfl rfl rfl ?_
  refine b_gr (pc' := 36) tb_X4_add r_X4_add_33 tF_28_4_5 rfl ?_
  refine b_aln (pc' := 37) (a := .inr (.inr (.inl 28))) tb_X4_add r_X4_add_36 rfl rfl rfl ?_
  obtain ⟨v21, cv21, h⟩ := rK_in h
  refine b_gi (pc' := 40) tb_X4_add r_X4_add_37 tF_28_4_2 cv21 rfl ?_
  refine b_aln (pc' := 41) (a := .inr (.inr (.inl 28))) tb_X4_add r_X4_add_40 rfl rfl rfl ?_
  refine b_gr (pc' := 44) tb_X4_add r_X4_add_41 tF_28_4_0 rfl ?_
  refine b_gr (pc' := 47) tb_X4_add r_X4_add_44 tF_11_8_1 rfl ?_
  refine b_iln (pc' := 48) (a := .inl a1) tb_X4_add r_X4_add_47 rfl rfl rfl ?_
  obtain ⟨v22, _, dv22, cv22, h⟩ := lK2_in h
  refine b_ia2 (pc' := 49) tb_X4_add r_X4_add_48 tA_12 dv22 cv22 rfl ?_
  refine b_bi (pc' := 51) (8) tb_X4_add r_X4_add_49 rfl rfl rfl ?_
  obtain ⟨v23, c1, c2, c3, ev23, h⟩ := dvK_in h
  refine b_div (pc' := 52) tb_X4_add r_X4_add_51 c1 c2 c3 ev23 rfl ?_
  refine b_ic (pc' := 53) (4) tb_X4_add r_X4_add_52 rfl rfl ?_
  refine b_sub (pc' := 54) tb_X4_add r_X4_add_53 rfl ?_
  obtain ⟨M24, dM24, cM24, h⟩ := sK_in h
  refine b_is (pc' := 55) tb_X4_add r_X4_add_54 tA_31 dM24 cM24 rfl ?_
  refine b_aln (pc' := 56) (a := .inr (.inr (.inl 28))) tb_X4_add r_X4_add_55 rfl rfl rfl ?_
  refine b_gr (pc' := 59) tb_X4_add r_X4_add_56 tF_28_4_6 rfl ?_
  refine b_aln (pc' := 60) (a := .inr (.inr (.inl 28))) tb_X4_add r_X4_add_59 rfl rfl rfl ?_
  obtain ⟨v25, cv25, h⟩ := rK_in h
  refine b_gi (pc' := 63) tb_X4_add r_X4_add_60 tF_28_4_2 cv25 rfl ?_
  refine b_iln (pc' := 64) (a := .inl a3) tb_X4_add r_X4_add_63 rfl rfl rfl ?_
  obtain ⟨M26, dM26, cM26, h⟩ := sK_in h
  refine b_is (pc' := 65) tb_X4_add r_X4_add_64 tA_32 dM26 cM26 rfl ?_
  refine b_aln (pc' := 66) (a := .inr (.inr (.inl 28))) tb_X4_add r_X4_add_65 rfl rfl rfl ?_
  refine b_gr (pc' := 69) tb_X4_add r_X4_add_66 tF_28_4_7 rfl ?_
  refine b_aln (pc' := 70) (a := .inr (.inr (.inl 28))) tb_X4_add r_X4_add_69 rfl rfl rfl ?_
  obtain ⟨v27, cv27, h⟩ := rK_in h
  refine b_gi (pc' := 73) tb_X4_add r_X4_add_70 tF_28_4_2 cv27 rfl ?_
  refine b_il (pc' := 75) (a := .inl a4) tb_X4_add r_X4_add_73 rfl rfl rfl ?_
  obtain ⟨M28, dM28, cM28, h⟩ := sK_in h
  refine b_is (pc' := 76) tb_X4_add r_X4_add_75 tA_33 dM28 cM28 rfl ?_
  refine b_aln (pc' := 77) (a := .inr (.inr (.inl 28))) tb_X4_add r_X4_add_76 rfl rfl rfl ?_
  refine b_dup (pc' := 78) tb_X4_add r_X4_add_77 rfl rfl ?_
  obtain ⟨v29, cv29, h⟩ := rK_in h
  refine b_gi (pc' := 81) tb_X4_add r_X4_add_78 tF_28_4_2 cv29 rfl ?_
  refine b_ic (pc' := 82) (1) tb_X4_add r_X4_add_81 rfl rfl ?_
  refine b_add (pc' := 83) tb_X4_add r_X4_add_82 rfl ?_
  obtain ⟨M30, cM30, h⟩ := pK_in h
  refine b_pi (pc' := 86) tb_X4_add r_X4_add_83 rfl tF_28_4_2 cM30 rfl ?_
  refine b_aln (pc' := 87) (a := .inr (.inr (.inl 28))) tb_X4_add r_X4_add_86 rfl rfl rfl ?_
  obtain ⟨v31, cv31, h⟩ := rK_in h
  refine b_gi (pc' := 90) tb_X4_add r_X4_add_87 tF_28_4_2 cv31 rfl ?_
  refine b_ic (pc' := 91) (1) tb_X4_add r_X4_add_90 rfl rfl ?_
  refine b_sub (pc' := 92) tb_X4_add r_X4_add_91 rfl ?_
  exact b_ri tb_X4_add r_X4_add_92 rfl (sj h).symm
noncomputable def m_X4_collect (a1 : Nat) (M0 : Nat) : RN :=
  cI (m_X8_end a1 M0) (fun v2 M1 => pK M1 1349 0 (fun M3 => lp (fun _ _ => none) (fun (j16 : (Nat →  Nat → RN)) => fun (x4 : Nat) (M5 : Nat) => jn (fun (M6 : Nat) => some (1, M6)) (fun (j141 : ( Nat → RN)) => bK (nGe x4 v2) (j141 M5) (rK M5 1349 (fun v7 => bK (nGe v7 20) (j141 M5) (lK2 M5 281 780 7500 7656 x4 (fun v8 => bK (nGe v8 32) (dvK Nat.mod v8 8 (fun v27 => fK (oAdd x4 1) (fun v28 => lp (fun _ _ _ => none) (fun (j67 : (Nat → Nat →  Nat → RN)) => fun (x29 : Nat) (x30 : Nat) (M31 : Nat) => jn (fun (M32 : Nat) => rK M32 1349 (fun v33 => fK (oSub (oShl 1 v27) 1) (fun v34 => fK (oSub x29 x4) (fun v35 => cI (m_X4_add x4 v35 v33 v34 M32) (fun v37 M36 => fK (oAdd x4 1) (fun v38 => j16 v38 M36)))))) (fun (j115 : ( Nat → RN)) => bK (nGe x30 v27) (j115 M31) (bK (nGe x30 5) (j115 M31) (rK M31 1349 (fun v39 => fK (oAdd (oMul v39 5) x30) (fun v40 => sK M31 1600 61 v40 (oSub x29 a1) (fun M41 => cI (m_X8_end x29 M41) (fun v43 M42 => fK (oAdd x30 1) (fun v44 => j67 v43 v44 M42))))))))) (fun (j67 : (Nat → Nat →  Nat → RN)) => j67 v28 0 M5)))) none)))))) (fun (j16 : (Nat →  Nat → RN)) => j16 a1 M3)))
set_option maxRecDepth 100000 in
theorem snd_X4_collect {l : Launch} {g : GV} {D : va_G} {sl q : Nat} {a1 M0 : Nat} {r : Nat × Nat} (h : m_X4_collect a1 M0 = some r) : SN l g D sl 2 0 q q 56 0 [(0, .inr (.inr (.inl 28))), (1, .inl a1)] [] M0 (PR r) := by
  unfold m_X4_collect at h
  refine b_aln (pc' := 1) (a := .inr (.inr (.inl 28))) tb_X4_collect r_X4_collect_0 rfl rfl rfl ?_
  refine b_gr (pc' := 4) tb_X4_collect r_X4_collect_1 tF_28_4_0 rfl ?_
  refine b_iln (pc' := 5) (a := .inl a1) tb_X4_collect r_X4_collect_4 rfl rfl rfl ?_
  obtain ⟨v2, M1, ov2, h⟩ := cI_in h
  refine b_vI (pc' := 8) tb_X4_collect r_X4_collect_5 tb_X8_end mo_X8_end (by decide) rfl rfl ov2 (fun r hr => snd_X8_end hr) (by decide) rfl rfl rfl ?_
  refine b_stn (pc' := 9) [(2, .inl v2), (0, .inr (.inr (.inl 28))), (1, .inl a1)] tb_X4_collect r_X4_collect_8 rfl rfl rfl rfl ?_
  refine b_aln (pc' := 10) (a := .inr (.inr (.inl 28))) tb_X4_collect r_X4_collect_9 rfl rfl rfl ?_
  refine b_ic (pc' := 11) (0) tb_X4_collect r_X4_collect_10 rfl rfl ?_
  obtain ⟨M3, cM3, h⟩ := pK_in h
  refine b_pi (pc' := 14) tb_X4_collect r_X4_collect_11 rfl tF_28_4_2 cM3 rfl ?_
  refine b_iln (pc' := 15) (a := .inl a1) tb_X4_collect r_X4_collect_14 rfl rfl rfl ?_
  refine b_stn (pc' := 16) [(3, .inl a1), (2, .inl v2), (0, .inr (.inr (.inl 28))), (1, .inl a1)] tb_X4_collect r_X4_collect_15 rfl rfl rfl rfl ?_
  refine lp_in (R := fun (j16 : (Nat → Nat → RN)) => ∀ (x4 M5 : Nat), j16 x4 M5 = some r → SN l g D sl 2 0 q q 56 16 [(0, .inr (.inr (.inl 28))), (1, .inl a1), (2, .inl v2), (3, .inl x4)] [] M5 (PR r)) h (fun _ _ h => by cases h) (fun j16 hj16 => ?_) (fun j16 hj16 h => ?_)
  · intro x4 M5 h
    refine b_iln (pc' := 17) (a := .inl x4) tb_X4_collect r_X4_collect_16 rfl rfl rfl ?_
    refine b_iln (pc' := 18) (a := .inl v2) tb_X4_collect r_X4_collect_17 rfl rfl rfl ?_
    refine jn_in (R := fun (j141 : ( Nat → RN)) => ∀ (M6 : Nat), j141 M6 = some r → SN l g D sl 2 0 q q 56 141 [] [] M6 (PR r)) h (fun M6 h => ?_) (fun j141 hj141 h => ?_)
    · skip
      exact b_vo tb_X4_collect r_X4_collect_141 (sj h).symm
    rcases bK_in h with ⟨c1, h⟩ | ⟨c1, h⟩
    · refine b_icT (t := 141) tb_X4_collect r_X4_collect_18 rfl ((nGe_c _ _).symm.trans c1) ?_
      refine b_sub9 [] trivial ?_
      exact hj141 _ h
    · refine b_icF (t := 141) (pc' := 21) tb_X4_collect r_X4_collect_18 rfl ((nGe_c _ _).symm.trans c1) rfl ?_
      refine b_aln (pc' := 22) (a := .inr (.inr (.inl 28))) tb_X4_collect r_X4_collect_21 rfl rfl rfl ?_
      obtain ⟨v7, cv7, h⟩ := rK_in h
      refine b_gi (pc' := 25) tb_X4_collect r_X4_collect_22 tF_28_4_2 cv7 rfl ?_
      refine b_bi (pc' := 27) (20) tb_X4_collect r_X4_collect_25 rfl rfl rfl ?_
      rcases bK_in h with ⟨c1, h⟩ | ⟨c1, h⟩
      · refine b_icT (t := 141) tb_X4_collect r_X4_collect_27 rfl ((nGe_c _ _).symm.trans c1) ?_
        refine b_sub9 [] trivial ?_
        exact hj141 _ h
      · refine b_icF (t := 141) (pc' := 30) tb_X4_collect r_X4_collect_27 rfl ((nGe_c _ _).symm.trans c1) rfl ?_
        refine b_aln (pc' := 31) (a := .inr (.inr (.inl 28))) tb_X4_collect r_X4_collect_30 rfl rfl rfl ?_
        refine b_gr (pc' := 34) tb_X4_collect r_X4_collect_31 tF_28_4_0 rfl ?_
        refine b_gr (pc' := 37) tb_X4_collect r_X4_collect_34 tF_11_8_1 rfl ?_
        refine b_iln (pc' := 38) (a := .inl x4) tb_X4_collect r_X4_collect_37 rfl rfl rfl ?_
        obtain ⟨v8, _, dv8, cv8, h⟩ := lK2_in h
        refine b_ia2 (pc' := 39) tb_X4_collect r_X4_collect_38 tA_12 dv8 cv8 rfl ?_
        refine b_st (pc' := 41) [(4, .inl v8), (0, .inr (.inr (.inl 28))), (1, .inl a1), (2, .inl v2), (3, .inl x4)] tb_X4_collect r_X4_collect_39 rfl rfl rfl rfl ?_
        refine b_il (pc' := 43) (a := .inl v8) tb_X4_collect r_X4_collect_41 rfl rfl rfl ?_
        refine b_bi (pc' := 45) (32) tb_X4_collect r_X4_collect_43 rfl rfl rfl ?_
        obtain ⟨c1, h⟩ := bK_t h
        refine b_icT (t := 52) tb_X4_collect r_X4_collect_45 rfl ((nGe_c _ _).symm.trans c1) ?_
        refine b_il (pc' := 54) (a := .inl v8) tb_X4_collect r_X4_collect_52 rfl rfl rfl ?_
        refine b_bi (pc' := 56) (8) tb_X4_collect r_X4_collect_54 rfl rfl rfl ?_
        obtain ⟨v27, c1, c2, c3, ev27, h⟩ := dvK_in h
        refine b_rem (pc' := 57) tb_X4_collect r_X4_collect_56 c1 c2 c3 ev27 rfl ?_
        refine b_st (pc' := 59) [(5, .inl v27), (4, .inl v8), (0, .inr (.inr (.inl 28))), (1, .inl a1), (2, .inl v2), (3, .inl x4)] tb_X4_collect r_X4_collect_57 rfl rfl rfl rfl ?_
        refine b_iln (pc' := 60) (a := .inl x4) tb_X4_collect r_X4_collect_59 rfl rfl rfl ?_
        refine b_ic (pc' := 61) (1) tb_X4_collect r_X4_collect_60 rfl rfl ?_
        refine b_add (pc' := 62) tb_X4_collect r_X4_collect_61 rfl ?_
        obtain ⟨v28, ev28, h⟩ := fK_v h
        rw [ev28]
        refine b_st (pc' := 64) [(6, .inl v28), (5, .inl v27), (4, .inl v8), (0, .inr (.inr (.inl 28))), (1, .inl a1), (2, .inl v2), (3, .inl x4)] tb_X4_collect r_X4_collect_62 rfl rfl rfl rfl ?_
        refine b_ic (pc' := 65) (0) tb_X4_collect r_X4_collect_64 rfl rfl ?_
        refine b_st (pc' := 67) [(7, .inl 0), (6, .inl v28), (5, .inl v27), (4, .inl v8), (0, .inr (.inr (.inl 28))), (1, .inl a1), (2, .inl v2), (3, .inl x4)] tb_X4_collect r_X4_collect_65 rfl rfl rfl rfl ?_
        refine lp_in (R := fun (j67 : (Nat → Nat → Nat → RN)) => ∀ (x29 x30 M31 : Nat), j67 x29 x30 M31 = some r → SN l g D sl 2 0 q q 56 67 [(0, .inr (.inr (.inl 28))), (1, .inl a1), (2, .inl v2), (3, .inl x4), (5, .inl v27), (6, .inl x29), (7, .inl x30)] [] M31 (PR r)) h (fun _ _ _ h => by cases h) (fun j67 hj67 => ?_) (fun j67 hj67 h => ?_)
        · intro x29 x30 M31 h
          refine b_il (pc' := 69) (a := .inl x30) tb_X4_collect r_X4_collect_67 rfl rfl rfl ?_
          refine b_il (pc' := 71) (a := .inl v27) tb_X4_collect r_X4_collect_69 rfl rfl rfl ?_
          refine jn_in (R := fun (j115 : ( Nat → RN)) => ∀ (M32 : Nat), j115 M32 = some r → SN l g D sl 2 0 q q 56 115 [(0, .inr (.inr (.inl 28))), (1, .inl a1), (2, .inl v2), (3, .inl x4), (5, .inl v27), (6, .inl x29)] [] M32 (PR r)) h (fun M32 h => ?_) (fun j115 hj115 h => ?_)
          · skip
            refine b_aln (pc' := 116) (a := .inr (.inr (.inl 28))) tb_X4_collect r_X4_collect_115 rfl rfl rfl ?_
            refine b_iln (pc' := 117) (a := .inl x4) tb_X4_collect r_X4_collect_116 rfl rfl rfl ?_
            refine b_il (pc' := 119) (a := .inl x29) tb_X4_collect r_X4_collect_117 rfl rfl rfl ?_
            refine b_iln (pc' := 120) (a := .inl x4) tb_X4_collect r_X4_collect_119 rfl rfl rfl ?_
            refine b_sub (pc' := 121) tb_X4_collect r_X4_collect_120 rfl ?_
            refine b_aln (pc' := 122) (a := .inr (.inr (.inl 28))) tb_X4_collect r_X4_collect_121 rfl rfl rfl ?_
            obtain ⟨v33, cv33, h⟩ := rK_in h
            refine b_gi (pc' := 125) tb_X4_collect r_X4_collect_122 tF_28_4_2 cv33 rfl ?_
            refine b_ic (pc' := 126) (1) tb_X4_collect r_X4_collect_125 rfl rfl ?_
            refine b_il (pc' := 128) (a := .inl v27) tb_X4_collect r_X4_collect_126 rfl rfl rfl ?_
            refine b_shl (pc' := 129) tb_X4_collect r_X4_collect_128 rfl ?_
            refine b_ic (pc' := 130) (1) tb_X4_collect r_X4_collect_129 rfl rfl ?_
            refine b_sub (pc' := 131) tb_X4_collect r_X4_collect_130 rfl ?_
            obtain ⟨v34, ev34, h⟩ := fK_v h
            rw [ev34]
            obtain ⟨v35, ev35, h⟩ := fK_v h
            rw [ev35]
            obtain ⟨v37, M36, ov37, h⟩ := cI_in h
            refine b_vI (pc' := 134) tb_X4_collect r_X4_collect_131 tb_X4_add mo_X4_add (by decide) rfl rfl ov37 (fun r hr => snd_X4_add hr) (by decide) rfl rfl rfl ?_
            refine b_pop (pc' := 135) tb_X4_collect r_X4_collect_134 rfl rfl ?_
            refine b_inc (pc' := 138) (v := x4) (n := 1) [(3, .inl (oAdd x4 1)), (0, .inr (.inr (.inl 28))), (1, .inl a1), (2, .inl v2), (5, .inl v27), (6, .inl x29)] tb_X4_collect r_X4_collect_135 rfl rfl rfl rfl rfl ?_
            obtain ⟨v38, ev38, h⟩ := fK_v h
            rw [ev38]
            refine b_goto (pc' := 16) tb_X4_collect r_X4_collect_138 rfl ?_
            refine b_sub9 [(0, .inr (.inr (.inl 28))), (1, .inl a1), (2, .inl v2), (3, .inl v38)] ⟨rfl, rfl, rfl, rfl, trivial⟩ ?_
            exact hj16 _ _ h
          rcases bK_in h with ⟨c1, h⟩ | ⟨c1, h⟩
          · refine b_icT (t := 115) tb_X4_collect r_X4_collect_71 rfl ((nGe_c _ _).symm.trans c1) ?_
            refine b_sub9 [(0, .inr (.inr (.inl 28))), (1, .inl a1), (2, .inl v2), (3, .inl x4), (5, .inl v27), (6, .inl x29)] ⟨rfl, rfl, rfl, rfl, rfl, rfl, trivial⟩ ?_
            exact hj115 _ h
          · refine b_icF (t := 115) (pc' := 74) tb_X4_collect r_X4_collect_71 rfl ((nGe_c _ _).symm.trans c1) rfl ?_
            refine b_il (pc' := 76) (a := .inl x30) tb_X4_collect r_X4_collect_74 rfl rfl rfl ?_
            refine b_ic (pc' := 77) (5) tb_X4_collect r_X4_collect_76 rfl rfl ?_
            rcases bK_in h with ⟨c1, h⟩ | ⟨c1, h⟩
            · refine b_icT (t := 115) tb_X4_collect r_X4_collect_77 rfl ((nGe_c _ _).symm.trans c1) ?_
              refine b_sub9 [(0, .inr (.inr (.inl 28))), (1, .inl a1), (2, .inl v2), (3, .inl x4), (5, .inl v27), (6, .inl x29)] ⟨rfl, rfl, rfl, rfl, rfl, rfl, trivial⟩ ?_
              exact hj115 _ h
            · refine b_icF (t := 115) (pc' := 80) tb_X4_collect r_X4_collect_77 rfl ((nGe_c _ _).symm.trans c1) rfl ?_
              refine b_aln (pc' := 81) (a := .inr (.inr (.inl 28))) tb_X4_collect r_X4_collect_80 rfl rfl rfl ?_
              refine b_gr (pc' := 84) tb_X4_collect r_X4_collect_81 tF_28_4_12 rfl ?_
              refine b_aln (pc' := 85) (a := .inr (.inr (.inl 28))) tb_X4_collect r_X4_collect_84 rfl rfl rfl ?_
              obtain ⟨v39, cv39, h⟩ := rK_in h
              refine b_gi (pc' := 88) tb_X4_collect r_X4_collect_85 tF_28_4_2 cv39 rfl ?_
              refine b_ic (pc' := 89) (5) tb_X4_collect r_X4_collect_88 rfl rfl ?_
              refine b_mul (pc' := 90) tb_X4_collect r_X4_collect_89 rfl ?_
              refine b_il (pc' := 92) (a := .inl x30) tb_X4_collect r_X4_collect_90 rfl rfl rfl ?_
              refine b_add (pc' := 93) tb_X4_collect r_X4_collect_92 rfl ?_
              refine b_il (pc' := 95) (a := .inl x29) tb_X4_collect r_X4_collect_93 rfl rfl rfl ?_
              refine b_iln (pc' := 96) (a := .inl a1) tb_X4_collect r_X4_collect_95 rfl rfl rfl ?_
              refine b_sub (pc' := 97) tb_X4_collect r_X4_collect_96 rfl ?_
              obtain ⟨v40, ev40, h⟩ := fK_v h
              rw [ev40]
              obtain ⟨M41, dM41, cM41, h⟩ := sK_in h
              refine b_is (pc' := 98) tb_X4_collect r_X4_collect_97 tA_37 dM41 cM41 rfl ?_
              refine b_aln (pc' := 99) (a := .inr (.inr (.inl 28))) tb_X4_collect r_X4_collect_98 rfl rfl rfl ?_
              refine b_gr (pc' := 102) tb_X4_collect r_X4_collect_99 tF_28_4_0 rfl ?_
              refine b_il (pc' := 104) (a := .inl x29) tb_X4_collect r_X4_collect_102 rfl rfl rfl ?_
              obtain ⟨v43, M42, ov43, h⟩ := cI_in h
              refine b_vI (pc' := 107) tb_X4_collect r_X4_collect_104 tb_X8_end mo_X8_end (by decide) rfl rfl ov43 (fun r hr => snd_X8_end hr) (by decide) rfl rfl rfl ?_
              refine b_st (pc' := 109) [(6, .inl v43), (0, .inr (.inr (.inl 28))), (1, .inl a1), (2, .inl v2), (3, .inl x4), (5, .inl v27), (7, .inl x30)] tb_X4_collect r_X4_collect_107 rfl rfl rfl rfl ?_
              refine b_inc (pc' := 112) (v := x30) (n := 1) [(7, .inl (oAdd x30 1)), (6, .inl v43), (0, .inr (.inr (.inl 28))), (1, .inl a1), (2, .inl v2), (3, .inl x4), (5, .inl v27)] tb_X4_collect r_X4_collect_109 rfl rfl rfl rfl rfl ?_
              obtain ⟨v44, ev44, h⟩ := fK_v h
              rw [ev44]
              refine b_goto (pc' := 67) tb_X4_collect r_X4_collect_112 rfl ?_
              refine b_sub9 [(0, .inr (.inr (.inl 28))), (1, .inl a1), (2, .inl v2), (3, .inl x4), (5, .inl v27), (6, .inl v43), (7, .inl v44)] ⟨rfl, rfl, rfl, rfl, rfl, rfl, rfl, trivial⟩ ?_
              exact hj67 _ _ _ h
        refine b_sub9 [(0, .inr (.inr (.inl 28))), (1, .inl a1), (2, .inl v2), (3, .inl x4), (5, .inl v27), (6, .inl v28), (7, .inl 0)] ⟨rfl, rfl, rfl, rfl, rfl, rfl, rfl, trivial⟩ ?_
        exact hj67 _ _ _ h
  refine b_sub9 [(0, .inr (.inr (.inl 28))), (1, .inl a1), (2, .inl v2), (3, .inl a1)] ⟨rfl, rfl, rfl, rfl, trivial⟩ ?_
  exact hj16 _ _ h
noncomputable def m_J6_lowestOneBit_0f7a4 (a0 : Nat) (M0 : Nat) : RN :=
  some (Nat.add (oAnd a0 (oNeg a0)) 2, M0)
set_option maxRecDepth 100000 in
theorem snd_J6_lowestOneBit_0f7a4 {l : Launch} {g : GV} {D : va_G} {sl q : Nat} {a0 M0 : Nat} {r : Nat × Nat} (h : m_J6_lowestOneBit_0f7a4 a0 M0 = some r) : SN l g D sl 1 0 q q 87 0 [(0, .inl a0)] [] M0 (PR r) := by
  unfold m_J6_lowestOneBit_0f7a4 at h
  refine b_iln (pc' := 1) (a := .inl a0) tb_J6_lowestOneBit_0f7a4 r_J6_lowestOneBit_0f7a4_0 rfl rfl rfl ?_
  refine b_iln (pc' := 2) (a := .inl a0) tb_J6_lowestOneBit_0f7a4 r_J6_lowestOneBit_0f7a4_1 rfl rfl rfl ?_
  refine b_neg (pc' := 3) tb_J6_lowestOneBit_0f7a4 r_J6_lowestOneBit_0f7a4_2 rfl ?_
  refine b_and (pc' := 4) tb_J6_lowestOneBit_0f7a4 r_J6_lowestOneBit_0f7a4_3 rfl ?_
  exact b_ri tb_J6_lowestOneBit_0f7a4 r_J6_lowestOneBit_0f7a4_4 rfl (sj h).symm
noncomputable def m_X4_writePart (a1 a2 : Nat) (M0 : Nat) : RN :=
  rK M0 276 (fun v1 => fK (oAdd v1 1) (fun v2 => rK M0 276 (fun v3 => lK M0 1418 33 a1 (fun v4 => cI (m_J6_bitCount_0f7a4 a2 M0) (fun v6 M5 => sK2 M5 281 780 7500 7656 v3 (oAdd (oAdd 32 (oMul v4 8)) v6) (fun M7 => lp (fun _ _ _ => none) (fun (j45 : (Nat → Nat →  Nat → RN)) => fun (x8 : Nat) (x9 : Nat) (M10 : Nat) => bK (nGe x9 5) (pK M10 276 x8 (fun M11 => some (1, M11))) (hK a2 x9 (fun v12 => jn (fun (x13 : Nat) (M14 : Nat) => fK (oAdd x9 1) (fun v15 => j45 x13 v15 M14)) (fun (j116 : (Nat →  Nat → RN)) => bK (nNe (oAnd v12 1) 1) (j116 x8 M10) (fK (oAdd (oMul a1 5) x9) (fun v16 => lK M10 1600 61 v16 (fun v17 => lK M10 1352 33 v17 (fun v18 => lK M10 1385 33 v17 (fun v19 => cpK M10 281 780 7500 7656 v18 x8 v19 (fun M20 => lK M20 1385 33 v17 (fun v21 => fK (oAdd x8 v21) (fun v22 => j116 v22 M20)))))))))))) (fun (j45 : (Nat → Nat →  Nat → RN)) => j45 v2 0 M7)))))))
set_option maxRecDepth 100000 in
theorem snd_X4_writePart {l : Launch} {g : GV} {D : va_G} {sl q : Nat} {a1 a2 M0 : Nat} {r : Nat × Nat} (h : m_X4_writePart a1 a2 M0 = some r) : SN l g D sl 2 0 q q 58 0 [(0, .inr (.inr (.inl 28))), (1, .inl a1), (2, .inl a2)] [] M0 (PR r) := by
  unfold m_X4_writePart at h
  refine b_aln (pc' := 1) (a := .inr (.inr (.inl 28))) tb_X4_writePart r_X4_writePart_0 rfl rfl rfl ?_
  refine b_gr (pc' := 4) tb_X4_writePart r_X4_writePart_1 tF_28_4_0 rfl ?_
  obtain ⟨v1, cv1, h⟩ := rK_in h
  refine b_gi (pc' := 7) tb_X4_writePart r_X4_writePart_4 tF_11_8_2 cv1 rfl ?_
  refine b_ic (pc' := 8) (1) tb_X4_writePart r_X4_writePart_7 rfl rfl ?_
  refine b_add (pc' := 9) tb_X4_writePart r_X4_writePart_8 rfl ?_
  obtain ⟨v2, ev2, h⟩ := fK_v h
  rw [ev2]
  refine b_stn (pc' := 10) [(3, .inl v2), (0, .inr (.inr (.inl 28))), (1, .inl a1), (2, .inl a2)] tb_X4_writePart r_X4_writePart_9 rfl rfl rfl rfl ?_
  refine b_aln (pc' := 11) (a := .inr (.inr (.inl 28))) tb_X4_writePart r_X4_writePart_10 rfl rfl rfl ?_
  refine b_gr (pc' := 14) tb_X4_writePart r_X4_writePart_11 tF_28_4_0 rfl ?_
  refine b_gr (pc' := 17) tb_X4_writePart r_X4_writePart_14 tF_11_8_1 rfl ?_
  refine b_aln (pc' := 18) (a := .inr (.inr (.inl 28))) tb_X4_writePart r_X4_writePart_17 rfl rfl rfl ?_
  refine b_gr (pc' := 21) tb_X4_writePart r_X4_writePart_18 tF_28_4_0 rfl ?_
  obtain ⟨v3, cv3, h⟩ := rK_in h
  refine b_gi (pc' := 24) tb_X4_writePart r_X4_writePart_21 tF_11_8_2 cv3 rfl ?_
  refine b_bi (pc' := 26) (32) tb_X4_writePart r_X4_writePart_24 rfl rfl rfl ?_
  refine b_aln (pc' := 27) (a := .inr (.inr (.inl 28))) tb_X4_writePart r_X4_writePart_26 rfl rfl rfl ?_
  refine b_gr (pc' := 30) tb_X4_writePart r_X4_writePart_27 tF_28_4_5 rfl ?_
  refine b_iln (pc' := 31) (a := .inl a1) tb_X4_writePart r_X4_writePart_30 rfl rfl rfl ?_
  obtain ⟨v4, dv4, cv4, h⟩ := lK_in h
  refine b_ia (pc' := 32) tb_X4_writePart r_X4_writePart_31 tA_31 dv4 cv4 rfl ?_
  refine b_bi (pc' := 34) (8) tb_X4_writePart r_X4_writePart_32 rfl rfl rfl ?_
  refine b_mul (pc' := 35) tb_X4_writePart r_X4_writePart_34 rfl ?_
  refine b_add (pc' := 36) tb_X4_writePart r_X4_writePart_35 rfl ?_
  refine b_iln (pc' := 37) (a := .inl a2) tb_X4_writePart r_X4_writePart_36 rfl rfl rfl ?_
  obtain ⟨v6, M5, ov6, h⟩ := cI_in h
  refine b_sI (pc' := 40) tb_X4_writePart r_X4_writePart_37 tb_J6_bitCount_0f7a4 mo_J6_bitCount_0f7a4 (by decide) rfl rfl ov6 (fun r hr => snd_J6_bitCount_0f7a4 hr) (by decide) rfl rfl rfl ?_
  refine b_add (pc' := 41) tb_X4_writePart r_X4_writePart_40 rfl ?_
  obtain ⟨M7, _, dM7, cM7, h⟩ := sK2_in h
  refine b_is2 (pc' := 42) tb_X4_writePart r_X4_writePart_41 tA_12 dM7 cM7 rfl ?_
  refine b_ic (pc' := 43) (0) tb_X4_writePart r_X4_writePart_42 rfl rfl ?_
  refine b_st (pc' := 45) [(4, .inl 0), (3, .inl v2), (0, .inr (.inr (.inl 28))), (1, .inl a1), (2, .inl a2)] tb_X4_writePart r_X4_writePart_43 rfl rfl rfl rfl ?_
  refine lp_in (R := fun (j45 : (Nat → Nat → Nat → RN)) => ∀ (x8 x9 M10 : Nat), j45 x8 x9 M10 = some r → SN l g D sl 2 0 q q 58 45 [(0, .inr (.inr (.inl 28))), (1, .inl a1), (2, .inl a2), (3, .inl x8), (4, .inl x9)] [] M10 (PR r)) h (fun _ _ _ h => by cases h) (fun j45 hj45 => ?_) (fun j45 hj45 h => ?_)
  · intro x8 x9 M10 h
    refine b_il (pc' := 47) (a := .inl x9) tb_X4_writePart r_X4_writePart_45 rfl rfl rfl ?_
    refine b_ic (pc' := 48) (5) tb_X4_writePart r_X4_writePart_47 rfl rfl ?_
    rcases bK_in h with ⟨c1, h⟩ | ⟨c1, h⟩
    · refine b_icT (t := 122) tb_X4_writePart r_X4_writePart_48 rfl ((nGe_c _ _).symm.trans c1) ?_
      refine b_aln (pc' := 123) (a := .inr (.inr (.inl 28))) tb_X4_writePart r_X4_writePart_122 rfl rfl rfl ?_
      refine b_gr (pc' := 126) tb_X4_writePart r_X4_writePart_123 tF_28_4_0 rfl ?_
      refine b_iln (pc' := 127) (a := .inl x8) tb_X4_writePart r_X4_writePart_126 rfl rfl rfl ?_
      obtain ⟨M11, cM11, h⟩ := pK_in h
      refine b_pi (pc' := 130) tb_X4_writePart r_X4_writePart_127 rfl tF_11_8_2 cM11 rfl ?_
      exact b_vo tb_X4_writePart r_X4_writePart_130 (sj h).symm
    · refine b_icF (t := 122) (pc' := 51) tb_X4_writePart r_X4_writePart_48 rfl ((nGe_c _ _).symm.trans c1) rfl ?_
      refine b_iln (pc' := 52) (a := .inl a2) tb_X4_writePart r_X4_writePart_51 rfl rfl rfl ?_
      refine b_il (pc' := 54) (a := .inl x9) tb_X4_writePart r_X4_writePart_52 rfl rfl rfl ?_
      obtain ⟨v12, c1, ev12, h⟩ := hK_in h
      refine b_shr (pc' := 55) tb_X4_writePart r_X4_writePart_54 c1 ev12 rfl ?_
      refine b_ic (pc' := 56) (1) tb_X4_writePart r_X4_writePart_55 rfl rfl ?_
      refine b_and (pc' := 57) tb_X4_writePart r_X4_writePart_56 rfl ?_
      refine b_ic (pc' := 58) (1) tb_X4_writePart r_X4_writePart_57 rfl rfl ?_
      refine jn_in (R := fun (j116 : (Nat → Nat → RN)) => ∀ (x13 M14 : Nat), j116 x13 M14 = some r → SN l g D sl 2 0 q q 58 116 [(0, .inr (.inr (.inl 28))), (1, .inl a1), (2, .inl a2), (3, .inl x13), (4, .inl x9)] [] M14 (PR r)) h (fun x13 M14 h => ?_) (fun j116 hj116 h => ?_)
      · skip
        refine b_inc (pc' := 119) (v := x9) (n := 1) [(4, .inl (oAdd x9 1)), (0, .inr (.inr (.inl 28))), (1, .inl a1), (2, .inl a2), (3, .inl x13)] tb_X4_writePart r_X4_writePart_116 rfl rfl rfl rfl rfl ?_
        obtain ⟨v15, ev15, h⟩ := fK_v h
        rw [ev15]
        refine b_goto (pc' := 45) tb_X4_writePart r_X4_writePart_119 rfl ?_
        refine b_sub9 [(0, .inr (.inr (.inl 28))), (1, .inl a1), (2, .inl a2), (3, .inl x13), (4, .inl v15)] ⟨rfl, rfl, rfl, rfl, rfl, trivial⟩ ?_
        exact hj45 _ _ _ h
      rcases bK_in h with ⟨c1, h⟩ | ⟨c1, h⟩
      · refine b_icT (t := 116) tb_X4_writePart r_X4_writePart_58 rfl ((nNe_c _ _).symm.trans c1) ?_
        exact hj116 _ _ h
      · refine b_icF (t := 116) (pc' := 61) tb_X4_writePart r_X4_writePart_58 rfl ((nNe_c _ _).symm.trans c1) rfl ?_
        refine b_aln (pc' := 62) (a := .inr (.inr (.inl 28))) tb_X4_writePart r_X4_writePart_61 rfl rfl rfl ?_
        refine b_gr (pc' := 65) tb_X4_writePart r_X4_writePart_62 tF_28_4_12 rfl ?_
        refine b_iln (pc' := 66) (a := .inl a1) tb_X4_writePart r_X4_writePart_65 rfl rfl rfl ?_
        refine b_ic (pc' := 67) (5) tb_X4_writePart r_X4_writePart_66 rfl rfl ?_
        refine b_mul (pc' := 68) tb_X4_writePart r_X4_writePart_67 rfl ?_
        refine b_il (pc' := 70) (a := .inl x9) tb_X4_writePart r_X4_writePart_68 rfl rfl rfl ?_
        refine b_add (pc' := 71) tb_X4_writePart r_X4_writePart_70 rfl ?_
        obtain ⟨v16, ev16, h⟩ := fK_v h
        rw [ev16]
        obtain ⟨v17, dv17, cv17, h⟩ := lK_in h
        refine b_ia (pc' := 72) tb_X4_writePart r_X4_writePart_71 tA_37 dv17 cv17 rfl ?_
        refine b_st (pc' := 74) [(5, .inl v17), (0, .inr (.inr (.inl 28))), (1, .inl a1), (2, .inl a2), (3, .inl x8), (4, .inl x9)] tb_X4_writePart r_X4_writePart_72 rfl rfl rfl rfl ?_
        refine b_aln (pc' := 75) (a := .inr (.inr (.inl 28))) tb_X4_writePart r_X4_writePart_74 rfl rfl rfl ?_
        refine b_gr (pc' := 78) tb_X4_writePart r_X4_writePart_75 tF_28_4_0 rfl ?_
        refine b_gr (pc' := 81) tb_X4_writePart r_X4_writePart_78 tF_11_8_1 rfl ?_
        refine b_aln (pc' := 82) (a := .inr (.inr (.inl 28))) tb_X4_writePart r_X4_writePart_81 rfl rfl rfl ?_
        refine b_gr (pc' := 85) tb_X4_writePart r_X4_writePart_82 tF_28_4_3 rfl ?_
        refine b_il (pc' := 87) (a := .inl v17) tb_X4_writePart r_X4_writePart_85 rfl rfl rfl ?_
        obtain ⟨v18, dv18, cv18, h⟩ := lK_in h
        refine b_ia (pc' := 88) tb_X4_writePart r_X4_writePart_87 tA_29 dv18 cv18 rfl ?_
        refine b_aln (pc' := 89) (a := .inr (.inr (.inl 28))) tb_X4_writePart r_X4_writePart_88 rfl rfl rfl ?_
        refine b_gr (pc' := 92) tb_X4_writePart r_X4_writePart_89 tF_28_4_0 rfl ?_
        refine b_gr (pc' := 95) tb_X4_writePart r_X4_writePart_92 tF_11_8_1 rfl ?_
        refine b_iln (pc' := 96) (a := .inl x8) tb_X4_writePart r_X4_writePart_95 rfl rfl rfl ?_
        refine b_aln (pc' := 97) (a := .inr (.inr (.inl 28))) tb_X4_writePart r_X4_writePart_96 rfl rfl rfl ?_
        refine b_gr (pc' := 100) tb_X4_writePart r_X4_writePart_97 tF_28_4_4 rfl ?_
        refine b_il (pc' := 102) (a := .inl v17) tb_X4_writePart r_X4_writePart_100 rfl rfl rfl ?_
        obtain ⟨v19, dv19, cv19, h⟩ := lK_in h
        refine b_ia (pc' := 103) tb_X4_writePart r_X4_writePart_102 tA_30 dv19 cv19 rfl ?_
        obtain ⟨M20, _, _, dM20, fM20, cM20, h⟩ := cpK_in h
        refine b_cp (pc' := 106) tb_X4_writePart r_X4_writePart_103 tA_12 rfl dM20 fM20 cM20 rfl ?_
        refine b_iln (pc' := 107) (a := .inl x8) tb_X4_writePart r_X4_writePart_106 rfl rfl rfl ?_
        refine b_aln (pc' := 108) (a := .inr (.inr (.inl 28))) tb_X4_writePart r_X4_writePart_107 rfl rfl rfl ?_
        refine b_gr (pc' := 111) tb_X4_writePart r_X4_writePart_108 tF_28_4_4 rfl ?_
        refine b_il (pc' := 113) (a := .inl v17) tb_X4_writePart r_X4_writePart_111 rfl rfl rfl ?_
        obtain ⟨v21, dv21, cv21, h⟩ := lK_in h
        refine b_ia (pc' := 114) tb_X4_writePart r_X4_writePart_113 tA_30 dv21 cv21 rfl ?_
        refine b_add (pc' := 115) tb_X4_writePart r_X4_writePart_114 rfl ?_
        obtain ⟨v22, ev22, h⟩ := fK_v h
        rw [ev22]
        refine b_stn (pc' := 116) [(3, .inl v22), (5, .inl v17), (0, .inr (.inr (.inl 28))), (1, .inl a1), (2, .inl a2), (4, .inl x9)] tb_X4_writePart r_X4_writePart_115 rfl rfl rfl rfl ?_
        refine b_sub9 [(0, .inr (.inr (.inl 28))), (1, .inl a1), (2, .inl a2), (3, .inl v22), (4, .inl x9)] ⟨rfl, rfl, rfl, rfl, rfl, trivial⟩ ?_
        exact hj116 _ _ h
  refine b_sub9 [(0, .inr (.inr (.inl 28))), (1, .inl a1), (2, .inl a2), (3, .inl v2), (4, .inl 0)] ⟨rfl, rfl, rfl, rfl, rfl, trivial⟩ ?_
  exact hj45 _ _ _ h
noncomputable def m_J6_numberOfTrailingZeros_0f7a4 (a0 : Nat) (M0 : Nat) : RN :=
  fK (oAnd (oXor a0 4294967295) (oSub a0 1)) (fun v1 => bK (zGt v1) (bK (nLe v1 65536) (bK (nLe v1 256) (bK (nLe v1 16) (jn (fun (x37 : Nat) (x38 : Nat) (M39 : Nat) => some (Nat.add (oAdd x38 (oUshr x37 1)) 2, M39)) (fun (j74 : (Nat → Nat →  Nat → RN)) => bK (nLe v1 4) (j74 v1 1 M0) (fK (oAdd 1 2) (fun v40 => fK (oUshr v1 2) (fun v41 => j74 v41 v40 M0))))) none) none) none) (some (Nat.add (oAnd v1 32) 2, M0)))
set_option maxRecDepth 100000 in
theorem snd_J6_numberOfTrailingZeros_0f7a4 {l : Launch} {g : GV} {D : va_G} {sl q : Nat} {a0 M0 : Nat} {r : Nat × Nat} (h : m_J6_numberOfTrailingZeros_0f7a4 a0 M0 = some r) : SN l g D sl 1 0 q q 88 0 [(0, .inl a0)] [] M0 (PR r) := by
  unfold m_J6_numberOfTrailingZeros_0f7a4 at h
  refine b_iln (pc' := 1) (a := .inl a0) tb_J6_numberOfTrailingZeros_0f7a4 r_J6_numberOfTrailingZeros_0f7a4_0 rfl rfl rfl ?_
  refine b_ic (pc' := 2) (4294967295) tb_J6_numberOfTrailingZeros_0f7a4 r_J6_numberOfTrailingZeros_0f7a4_1 rfl rfl ?_
  refine b_xor (pc' := 3) tb_J6_numberOfTrailingZeros_0f7a4 r_J6_numberOfTrailingZeros_0f7a4_2 rfl ?_
  refine b_iln (pc' := 4) (a := .inl a0) tb_J6_numberOfTrailingZeros_0f7a4 r_J6_numberOfTrailingZeros_0f7a4_3 rfl rfl rfl ?_
  refine b_ic (pc' := 5) (1) tb_J6_numberOfTrailingZeros_0f7a4 r_J6_numberOfTrailingZeros_0f7a4_4 rfl rfl ?_
  refine b_sub (pc' := 6) tb_J6_numberOfTrailingZeros_0f7a4 r_J6_numberOfTrailingZeros_0f7a4_5 rfl ?_
  refine b_and (pc' := 7) tb_J6_numberOfTrailingZeros_0f7a4 r_J6_numberOfTrailingZeros_0f7a4_6 rfl ?_
  obtain ⟨v1, ev1, h⟩ := fK_v h
  rw [ev1]
  refine b_stn (pc' := 8) [(0, .inl v1)] tb_J6_numberOfTrailingZeros_0f7a4 r_J6_numberOfTrailingZeros_0f7a4_7 rfl rfl rfl rfl ?_
  refine b_iln (pc' := 9) (a := .inl v1) tb_J6_numberOfTrailingZeros_0f7a4 r_J6_numberOfTrailingZeros_0f7a4_8 rfl rfl rfl ?_
  rcases bK_in h with ⟨c1, h⟩ | ⟨c1, h⟩
  · refine b_ifT (t := 17) tb_J6_numberOfTrailingZeros_0f7a4 r_J6_numberOfTrailingZeros_0f7a4_9 rfl ((zGt_c _).symm.trans c1) ?_
    refine b_ic (pc' := 18) (1) tb_J6_numberOfTrailingZeros_0f7a4 r_J6_numberOfTrailingZeros_0f7a4_17 rfl rfl ?_
    refine b_stn (pc' := 19) [(1, .inl 1), (0, .inl v1)] tb_J6_numberOfTrailingZeros_0f7a4 r_J6_numberOfTrailingZeros_0f7a4_18 rfl rfl rfl rfl ?_
    refine b_iln (pc' := 20) (a := .inl v1) tb_J6_numberOfTrailingZeros_0f7a4 r_J6_numberOfTrailingZeros_0f7a4_19 rfl rfl rfl ?_
    refine b_ldcw (pc' := 23) tb_J6_numberOfTrailingZeros_0f7a4 r_J6_numberOfTrailingZeros_0f7a4_20 rfl ?_
    obtain ⟨c1, h⟩ := bK_t h
    refine b_icT (t := 34) tb_J6_numberOfTrailingZeros_0f7a4 r_J6_numberOfTrailingZeros_0f7a4_23 rfl ((nLe_c _ _).symm.trans c1) ?_
    refine b_iln (pc' := 35) (a := .inl v1) tb_J6_numberOfTrailingZeros_0f7a4 r_J6_numberOfTrailingZeros_0f7a4_34 rfl rfl rfl ?_
    refine b_si (pc' := 38) (256) tb_J6_numberOfTrailingZeros_0f7a4 r_J6_numberOfTrailingZeros_0f7a4_35 rfl rfl rfl ?_
    obtain ⟨c1, h⟩ := bK_t h
    refine b_icT (t := 49) tb_J6_numberOfTrailingZeros_0f7a4 r_J6_numberOfTrailingZeros_0f7a4_38 rfl ((nLe_c _ _).symm.trans c1) ?_
    refine b_iln (pc' := 50) (a := .inl v1) tb_J6_numberOfTrailingZeros_0f7a4 r_J6_numberOfTrailingZeros_0f7a4_49 rfl rfl rfl ?_
    refine b_bi (pc' := 52) (16) tb_J6_numberOfTrailingZeros_0f7a4 r_J6_numberOfTrailingZeros_0f7a4_50 rfl rfl rfl ?_
    obtain ⟨c1, h⟩ := bK_t h
    refine b_icT (t := 62) tb_J6_numberOfTrailingZeros_0f7a4 r_J6_numberOfTrailingZeros_0f7a4_52 rfl ((nLe_c _ _).symm.trans c1) ?_
    refine b_iln (pc' := 63) (a := .inl v1) tb_J6_numberOfTrailingZeros_0f7a4 r_J6_numberOfTrailingZeros_0f7a4_62 rfl rfl rfl ?_
    refine b_ic (pc' := 64) (4) tb_J6_numberOfTrailingZeros_0f7a4 r_J6_numberOfTrailingZeros_0f7a4_63 rfl rfl ?_
    refine jn_in (R := fun (j74 : (Nat → Nat → Nat → RN)) => ∀ (x37 x38 M39 : Nat), j74 x37 x38 M39 = some r → SN l g D sl 1 0 q q 88 74 [(0, .inl x37), (1, .inl x38)] [] M39 (PR r)) h (fun x37 x38 M39 h => ?_) (fun j74 hj74 h => ?_)
    · skip
      refine b_iln (pc' := 75) (a := .inl x38) tb_J6_numberOfTrailingZeros_0f7a4 r_J6_numberOfTrailingZeros_0f7a4_74 rfl rfl rfl ?_
      refine b_iln (pc' := 76) (a := .inl x37) tb_J6_numberOfTrailingZeros_0f7a4 r_J6_numberOfTrailingZeros_0f7a4_75 rfl rfl rfl ?_
      refine b_ic (pc' := 77) (1) tb_J6_numberOfTrailingZeros_0f7a4 r_J6_numberOfTrailingZeros_0f7a4_76 rfl rfl ?_
      refine b_ushr (pc' := 78) tb_J6_numberOfTrailingZeros_0f7a4 r_J6_numberOfTrailingZeros_0f7a4_77 rfl ?_
      refine b_add (pc' := 79) tb_J6_numberOfTrailingZeros_0f7a4 r_J6_numberOfTrailingZeros_0f7a4_78 rfl ?_
      exact b_ri tb_J6_numberOfTrailingZeros_0f7a4 r_J6_numberOfTrailingZeros_0f7a4_79 rfl (sj h).symm
    rcases bK_in h with ⟨c1, h⟩ | ⟨c1, h⟩
    · refine b_icT (t := 74) tb_J6_numberOfTrailingZeros_0f7a4 r_J6_numberOfTrailingZeros_0f7a4_64 rfl ((nLe_c _ _).symm.trans c1) ?_
      refine b_sub9 [(0, .inl v1), (1, .inl 1)] ⟨rfl, rfl, trivial⟩ ?_
      exact hj74 _ _ _ h
    · refine b_icF (t := 74) (pc' := 67) tb_J6_numberOfTrailingZeros_0f7a4 r_J6_numberOfTrailingZeros_0f7a4_64 rfl ((nLe_c _ _).symm.trans c1) rfl ?_
      refine b_inc (pc' := 70) (v := 1) (n := 2) [(1, .inl (oAdd 1 2)), (0, .inl v1)] tb_J6_numberOfTrailingZeros_0f7a4 r_J6_numberOfTrailingZeros_0f7a4_67 rfl rfl rfl rfl rfl ?_
      obtain ⟨v40, ev40, h⟩ := fK_v h
      rw [ev40]
      refine b_iln (pc' := 71) (a := .inl v1) tb_J6_numberOfTrailingZeros_0f7a4 r_J6_numberOfTrailingZeros_0f7a4_70 rfl rfl rfl ?_
      refine b_ic (pc' := 72) (2) tb_J6_numberOfTrailingZeros_0f7a4 r_J6_numberOfTrailingZeros_0f7a4_71 rfl rfl ?_
      refine b_ushr (pc' := 73) tb_J6_numberOfTrailingZeros_0f7a4 r_J6_numberOfTrailingZeros_0f7a4_72 rfl ?_
      obtain ⟨v41, ev41, h⟩ := fK_v h
      rw [ev41]
      refine b_stn (pc' := 74) [(0, .inl v41), (1, .inl v40)] tb_J6_numberOfTrailingZeros_0f7a4 r_J6_numberOfTrailingZeros_0f7a4_73 rfl rfl rfl rfl ?_
      exact hj74 _ _ _ h
  · refine b_ifF (t := 17) (pc' := 12) tb_J6_numberOfTrailingZeros_0f7a4 r_J6_numberOfTrailingZeros_0f7a4_9 rfl ((zGt_c _).symm.trans c1) rfl ?_
    refine b_iln (pc' := 13) (a := .inl v1) tb_J6_numberOfTrailingZeros_0f7a4 r_J6_numberOfTrailingZeros_0f7a4_12 rfl rfl rfl ?_
    refine b_bi (pc' := 15) (32) tb_J6_numberOfTrailingZeros_0f7a4 r_J6_numberOfTrailingZeros_0f7a4_13 rfl rfl rfl ?_
    refine b_and (pc' := 16) tb_J6_numberOfTrailingZeros_0f7a4 r_J6_numberOfTrailingZeros_0f7a4_15 rfl ?_
    exact b_ri tb_J6_numberOfTrailingZeros_0f7a4 r_J6_numberOfTrailingZeros_0f7a4_16 rfl (sj h).symm
noncomputable def m_X4_addParts (M0 : Nat) : RN :=
  rK M0 1349 (fun v1 => lp (fun _ _ => none) (fun (j7 : (Nat →  Nat → RN)) => fun (x2 : Nat) (M3 : Nat) => bK (nGe x2 v1) (some (1, M3)) (lK M3 1418 33 x2 (fun v4 => bK (zGe v4) (lK M3 1418 33 x2 (fun v43 => lK M3 28 12 v43 (fun v44 => lp (fun _ _ => none) (fun (j43 : (Nat →  Nat → RN)) => fun (x45 : Nat) (M46 : Nat) => lK M46 1484 33 x2 (fun v47 => jn (fun (M48 : Nat) => lK M48 1484 33 x2 (fun v49 => dvK Nat.mod v49 32 (fun v50 => fK (oAdd (oMul x2 32) v50) (fun v51 => sK M48 1661 417 v51 x2 (fun M52 => fK (oAdd x2 1) (fun v53 => j7 v53 M52)))))) (fun (j203 : ( Nat → RN)) => bK (nGe x45 v47) (j203 M46) (bK (nLt v44 2) (j203 M46) (rK M46 276 (fun v54 => bK (nGe v54 27460) (j203 M46) (cI (m_J6_lowestOneBit_0f7a4 x45 M46) (fun v56 M55 => fK (oAdd x45 v56) (fun v57 => cI (m_J6_bitCount_0f7a4 v57 M55) (fun v59 M58 => jn (fun (s60 : Nat) (M61 : Nat) => cI (m_J6_bitCount_0f7a4 x45 M61) (fun v63 M62 => jn (fun (M64 : Nat) => fK (oAdd x45 1) (fun v65 => j43 v65 M64)) (fun (j197 : ( Nat → RN)) => bK (nNe v63 1) (jn (fun (M66 : Nat) => rK M66 276 (fun v67 => cV (m_X4_writePart x2 x45 M66) (fun M68 => rK M68 276 (fun v69 => fK (oSub v69 v67) (fun v70 => cI (m_X4_add v67 v70 x2 x45 M68) (fun v72 M71 => fK (oAdd (oMul x2 32) x45) (fun v73 => sK M71 1661 417 v73 v72 (fun M74 => j197 M74)))))))) (fun (j150 : ( Nat → RN)) => bK (nEq v44 3) (j150 M62) (bK (zEq s60) (j197 M62) (j150 M62)))) (cI (m_J6_numberOfTrailingZeros_0f7a4 x45 M62) (fun v76 M75 => fK (oAdd (oMul x2 5) v76) (fun v77 => lK M75 1600 61 v77 (fun v78 => fK (oAdd (oMul x2 32) x45) (fun v79 => sK M75 1661 417 v79 v78 (fun M80 => j197 M80))))))))) (fun (j96 : (Nat →  Nat → RN)) => bK (nNe v59 1) (j96 0 M58) (j96 1 M58)))))))))))) (fun (j43 : (Nat →  Nat → RN)) => j43 1 M3)))) none))) (fun (j7 : (Nat →  Nat → RN)) => j7 0 M0))
set_option maxRecDepth 100000 in
theorem snd_X4_addParts {l : Launch} {g : GV} {D : va_G} {sl q : Nat} {M0 : Nat} {r : Nat × Nat} (h : m_X4_addParts M0 = some r) : SN l g D sl 3 0 q q 57 0 [(0, .inr (.inr (.inl 28)))] [] M0 (PR r) := by
  unfold m_X4_addParts at h
  refine b_aln (pc' := 1) (a := .inr (.inr (.inl 28))) tb_X4_addParts r_X4_addParts_0 rfl rfl rfl ?_
  obtain ⟨v1, cv1, h⟩ := rK_in h
  refine b_gi (pc' := 4) tb_X4_addParts r_X4_addParts_1 tF_28_4_2 cv1 rfl ?_
  refine b_stn (pc' := 5) [(1, .inl v1), (0, .inr (.inr (.inl 28)))] tb_X4_addParts r_X4_addParts_4 rfl rfl rfl rfl ?_
  refine b_ic (pc' := 6) (0) tb_X4_addParts r_X4_addParts_5 rfl rfl ?_
  refine b_stn (pc' := 7) [(2, .inl 0), (1, .inl v1), (0, .inr (.inr (.inl 28)))] tb_X4_addParts r_X4_addParts_6 rfl rfl rfl rfl ?_
  refine lp_in (R := fun (j7 : (Nat → Nat → RN)) => ∀ (x2 M3 : Nat), j7 x2 M3 = some r → SN l g D sl 3 0 q q 57 7 [(0, .inr (.inr (.inl 28))), (1, .inl v1), (2, .inl x2)] [] M3 (PR r)) h (fun _ _ h => by cases h) (fun j7 hj7 => ?_) (fun j7 hj7 h => ?_)
  · intro x2 M3 h
    refine b_iln (pc' := 8) (a := .inl x2) tb_X4_addParts r_X4_addParts_7 rfl rfl rfl ?_
    refine b_iln (pc' := 9) (a := .inl v1) tb_X4_addParts r_X4_addParts_8 rfl rfl rfl ?_
    rcases bK_in h with ⟨c1, h⟩ | ⟨c1, h⟩
    · refine b_icT (t := 229) tb_X4_addParts r_X4_addParts_9 rfl ((nGe_c _ _).symm.trans c1) ?_
      exact b_vo tb_X4_addParts r_X4_addParts_229 (sj h).symm
    · refine b_icF (t := 229) (pc' := 12) tb_X4_addParts r_X4_addParts_9 rfl ((nGe_c _ _).symm.trans c1) rfl ?_
      refine b_aln (pc' := 13) (a := .inr (.inr (.inl 28))) tb_X4_addParts r_X4_addParts_12 rfl rfl rfl ?_
      refine b_gr (pc' := 16) tb_X4_addParts r_X4_addParts_13 tF_28_4_5 rfl ?_
      refine b_iln (pc' := 17) (a := .inl x2) tb_X4_addParts r_X4_addParts_16 rfl rfl rfl ?_
      obtain ⟨v4, dv4, cv4, h⟩ := lK_in h
      refine b_ia (pc' := 18) tb_X4_addParts r_X4_addParts_17 tA_31 dv4 cv4 rfl ?_
      obtain ⟨c1, h⟩ := bK_t h
      refine b_ifT (t := 25) tb_X4_addParts r_X4_addParts_18 rfl ((zGe_c _).symm.trans c1) ?_
      refine b_aln (pc' := 26) (a := .inr (.inr (.inl 28))) tb_X4_addParts r_X4_addParts_25 rfl rfl rfl ?_
      refine b_gr (pc' := 29) tb_X4_addParts r_X4_addParts_26 tF_28_4_1 rfl ?_
      refine b_gr (pc' := 32) tb_X4_addParts r_X4_addParts_29 tF_1_7_5 rfl ?_
      refine b_aln (pc' := 33) (a := .inr (.inr (.inl 28))) tb_X4_addParts r_X4_addParts_32 rfl rfl rfl ?_
      refine b_gr (pc' := 36) tb_X4_addParts r_X4_addParts_33 tF_28_4_5 rfl ?_
      refine b_iln (pc' := 37) (a := .inl x2) tb_X4_addParts r_X4_addParts_36 rfl rfl rfl ?_
      obtain ⟨v43, dv43, cv43, h⟩ := lK_in h
      refine b_ia (pc' := 38) tb_X4_addParts r_X4_addParts_37 tA_31 dv43 cv43 rfl ?_
      obtain ⟨v44, dv44, cv44, h⟩ := lK_in h
      refine b_ia (pc' := 39) tb_X4_addParts r_X4_addParts_38 tA_5 dv44 cv44 rfl ?_
      refine b_stn (pc' := 40) [(3, .inl v44), (0, .inr (.inr (.inl 28))), (1, .inl v1), (2, .inl x2)] tb_X4_addParts r_X4_addParts_39 rfl rfl rfl rfl ?_
      refine b_ic (pc' := 41) (1) tb_X4_addParts r_X4_addParts_40 rfl rfl ?_
      refine b_st (pc' := 43) [(4, .inl 1), (3, .inl v44), (0, .inr (.inr (.inl 28))), (1, .inl v1), (2, .inl x2)] tb_X4_addParts r_X4_addParts_41 rfl rfl rfl rfl ?_
      refine lp_in (R := fun (j43 : (Nat → Nat → RN)) => ∀ (x45 M46 : Nat), j43 x45 M46 = some r → SN l g D sl 3 0 q q 57 43 [(0, .inr (.inr (.inl 28))), (1, .inl v1), (2, .inl x2), (3, .inl v44), (4, .inl x45)] [] M46 (PR r)) h (fun _ _ h => by cases h) (fun j43 hj43 => ?_) (fun j43 hj43 h => ?_)
      · intro x45 M46 h
        refine b_il (pc' := 45) (a := .inl x45) tb_X4_addParts r_X4_addParts_43 rfl rfl rfl ?_
        refine b_aln (pc' := 46) (a := .inr (.inr (.inl 28))) tb_X4_addParts r_X4_addParts_45 rfl rfl rfl ?_
        refine b_gr (pc' := 49) tb_X4_addParts r_X4_addParts_46 tF_28_4_7 rfl ?_
        refine b_iln (pc' := 50) (a := .inl x2) tb_X4_addParts r_X4_addParts_49 rfl rfl rfl ?_
        obtain ⟨v47, dv47, cv47, h⟩ := lK_in h
        refine b_ia (pc' := 51) tb_X4_addParts r_X4_addParts_50 tA_33 dv47 cv47 rfl ?_
        refine jn_in (R := fun (j203 : ( Nat → RN)) => ∀ (M48 : Nat), j203 M48 = some r → SN l g D sl 3 0 q q 57 203 [(0, .inr (.inr (.inl 28))), (1, .inl v1), (2, .inl x2)] [] M48 (PR r)) h (fun M48 h => ?_) (fun j203 hj203 h => ?_)
        · skip
          refine b_aln (pc' := 204) (a := .inr (.inr (.inl 28))) tb_X4_addParts r_X4_addParts_203 rfl rfl rfl ?_
          refine b_gr (pc' := 207) tb_X4_addParts r_X4_addParts_204 tF_28_4_13 rfl ?_
          refine b_iln (pc' := 208) (a := .inl x2) tb_X4_addParts r_X4_addParts_207 rfl rfl rfl ?_
          refine b_bi (pc' := 210) (32) tb_X4_addParts r_X4_addParts_208 rfl rfl rfl ?_
          refine b_mul (pc' := 211) tb_X4_addParts r_X4_addParts_210 rfl ?_
          refine b_aln (pc' := 212) (a := .inr (.inr (.inl 28))) tb_X4_addParts r_X4_addParts_211 rfl rfl rfl ?_
          refine b_gr (pc' := 215) tb_X4_addParts r_X4_addParts_212 tF_28_4_7 rfl ?_
          refine b_iln (pc' := 216) (a := .inl x2) tb_X4_addParts r_X4_addParts_215 rfl rfl rfl ?_
          obtain ⟨v49, dv49, cv49, h⟩ := lK_in h
          refine b_ia (pc' := 217) tb_X4_addParts r_X4_addParts_216 tA_33 dv49 cv49 rfl ?_
          refine b_bi (pc' := 219) (32) tb_X4_addParts r_X4_addParts_217 rfl rfl rfl ?_
          obtain ⟨v50, c1, c2, c3, ev50, h⟩ := dvK_in h
          refine b_rem (pc' := 220) tb_X4_addParts r_X4_addParts_219 c1 c2 c3 ev50 rfl ?_
          refine b_add (pc' := 221) tb_X4_addParts r_X4_addParts_220 rfl ?_
          refine b_iln (pc' := 222) (a := .inl x2) tb_X4_addParts r_X4_addParts_221 rfl rfl rfl ?_
          obtain ⟨v51, ev51, h⟩ := fK_v h
          rw [ev51]
          obtain ⟨M52, dM52, cM52, h⟩ := sK_in h
          refine b_is (pc' := 223) tb_X4_addParts r_X4_addParts_222 tA_38 dM52 cM52 rfl ?_
          refine b_inc (pc' := 226) (v := x2) (n := 1) [(2, .inl (oAdd x2 1)), (0, .inr (.inr (.inl 28))), (1, .inl v1)] tb_X4_addParts r_X4_addParts_223 rfl rfl rfl rfl rfl ?_
          obtain ⟨v53, ev53, h⟩ := fK_v h
          rw [ev53]
          refine b_goto (pc' := 7) tb_X4_addParts r_X4_addParts_226 rfl ?_
          refine b_sub9 [(0, .inr (.inr (.inl 28))), (1, .inl v1), (2, .inl v53)] ⟨rfl, rfl, rfl, trivial⟩ ?_
          exact hj7 _ _ h
        rcases bK_in h with ⟨c1, h⟩ | ⟨c1, h⟩
        · refine b_icT (t := 203) tb_X4_addParts r_X4_addParts_51 rfl ((nGe_c _ _).symm.trans c1) ?_
          refine b_sub9 [(0, .inr (.inr (.inl 28))), (1, .inl v1), (2, .inl x2)] ⟨rfl, rfl, rfl, trivial⟩ ?_
          exact hj203 _ h
        · refine b_icF (t := 203) (pc' := 54) tb_X4_addParts r_X4_addParts_51 rfl ((nGe_c _ _).symm.trans c1) rfl ?_
          refine b_iln (pc' := 55) (a := .inl v44) tb_X4_addParts r_X4_addParts_54 rfl rfl rfl ?_
          refine b_ic (pc' := 56) (2) tb_X4_addParts r_X4_addParts_55 rfl rfl ?_
          rcases bK_in h with ⟨c1, h⟩ | ⟨c1, h⟩
          · refine b_icT (t := 203) tb_X4_addParts r_X4_addParts_56 rfl ((nLt_c _ _).symm.trans c1) ?_
            refine b_sub9 [(0, .inr (.inr (.inl 28))), (1, .inl v1), (2, .inl x2)] ⟨rfl, rfl, rfl, trivial⟩ ?_
            exact hj203 _ h
          · refine b_icF (t := 203) (pc' := 59) tb_X4_addParts r_X4_addParts_56 rfl ((nLt_c _ _).symm.trans c1) rfl ?_
            refine b_aln (pc' := 60) (a := .inr (.inr (.inl 28))) tb_X4_addParts r_X4_addParts_59 rfl rfl rfl ?_
            refine b_gr (pc' := 63) tb_X4_addParts r_X4_addParts_60 tF_28_4_0 rfl ?_
            obtain ⟨v54, cv54, h⟩ := rK_in h
            refine b_gi (pc' := 66) tb_X4_addParts r_X4_addParts_63 tF_11_8_2 cv54 rfl ?_
            refine b_si (pc' := 69) (27460) tb_X4_addParts r_X4_addParts_66 rfl rfl rfl ?_
            rcases bK_in h with ⟨c1, h⟩ | ⟨c1, h⟩
            · refine b_icT (t := 203) tb_X4_addParts r_X4_addParts_69 rfl ((nGe_c _ _).symm.trans c1) ?_
              refine b_sub9 [(0, .inr (.inr (.inl 28))), (1, .inl v1), (2, .inl x2)] ⟨rfl, rfl, rfl, trivial⟩ ?_
              exact hj203 _ h
            · refine b_icF (t := 203) (pc' := 72) tb_X4_addParts r_X4_addParts_69 rfl ((nGe_c _ _).symm.trans c1) rfl ?_
              refine b_il (pc' := 74) (a := .inl x45) tb_X4_addParts r_X4_addParts_72 rfl rfl rfl ?_
              refine b_il (pc' := 76) (a := .inl x45) tb_X4_addParts r_X4_addParts_74 rfl rfl rfl ?_
              obtain ⟨v56, M55, ov56, h⟩ := cI_in h
              refine b_sI (pc' := 79) tb_X4_addParts r_X4_addParts_76 tb_J6_lowestOneBit_0f7a4 mo_J6_lowestOneBit_0f7a4 (by decide) rfl rfl ov56 (fun r hr => snd_J6_lowestOneBit_0f7a4 hr) (by decide) rfl rfl rfl ?_
              refine b_add (pc' := 80) tb_X4_addParts r_X4_addParts_79 rfl ?_
              obtain ⟨v57, ev57, h⟩ := fK_v h
              rw [ev57]
              refine b_st (pc' := 82) [(5, .inl v57), (0, .inr (.inr (.inl 28))), (1, .inl v1), (2, .inl x2), (3, .inl v44), (4, .inl x45)] tb_X4_addParts r_X4_addParts_80 rfl rfl rfl rfl ?_
              refine b_il (pc' := 84) (a := .inl v57) tb_X4_addParts r_X4_addParts_82 rfl rfl rfl ?_
              obtain ⟨v59, M58, ov59, h⟩ := cI_in h
              refine b_sI (pc' := 87) tb_X4_addParts r_X4_addParts_84 tb_J6_bitCount_0f7a4 mo_J6_bitCount_0f7a4 (by decide) rfl rfl ov59 (fun r hr => snd_J6_bitCount_0f7a4 hr) (by decide) rfl rfl rfl ?_
              refine b_ic (pc' := 88) (1) tb_X4_addParts r_X4_addParts_87 rfl rfl ?_
              refine jn_in (R := fun (j96 : (Nat → Nat → RN)) => ∀ (s60 M61 : Nat), j96 s60 M61 = some r → SN l g D sl 3 0 q q 57 96 [(0, .inr (.inr (.inl 28))), (1, .inl v1), (2, .inl x2), (3, .inl v44), (4, .inl x45)] [.inl s60] M61 (PR r)) h (fun s60 M61 h => ?_) (fun j96 hj96 h => ?_)
              · skip
                refine b_st (pc' := 98) [(6, .inl s60), (0, .inr (.inr (.inl 28))), (1, .inl v1), (2, .inl x2), (3, .inl v44), (4, .inl x45)] tb_X4_addParts r_X4_addParts_96 rfl rfl rfl rfl ?_
                refine b_il (pc' := 100) (a := .inl x45) tb_X4_addParts r_X4_addParts_98 rfl rfl rfl ?_
                obtain ⟨v63, M62, ov63, h⟩ := cI_in h
                refine b_sI (pc' := 103) tb_X4_addParts r_X4_addParts_100 tb_J6_bitCount_0f7a4 mo_J6_bitCount_0f7a4 (by decide) rfl rfl ov63 (fun r hr => snd_J6_bitCount_0f7a4 hr) (by decide) rfl rfl rfl ?_
                refine b_ic (pc' := 104) (1) tb_X4_addParts r_X4_addParts_103 rfl rfl ?_
                refine jn_in (R := fun (j197 : ( Nat → RN)) => ∀ (M64 : Nat), j197 M64 = some r → SN l g D sl 3 0 q q 57 197 [(0, .inr (.inr (.inl 28))), (1, .inl v1), (2, .inl x2), (3, .inl v44), (4, .inl x45)] [] M64 (PR r)) h (fun M64 h => ?_) (fun j197 hj197 h => ?_)
                · skip
                  refine b_inc (pc' := 200) (v := x45) (n := 1) [(4, .inl (oAdd x45 1)), (0, .inr (.inr (.inl 28))), (1, .inl v1), (2, .inl x2), (3, .inl v44)] tb_X4_addParts r_X4_addParts_197 rfl rfl rfl rfl rfl ?_
                  obtain ⟨v65, ev65, h⟩ := fK_v h
                  rw [ev65]
                  refine b_goto (pc' := 43) tb_X4_addParts r_X4_addParts_200 rfl ?_
                  refine b_sub9 [(0, .inr (.inr (.inl 28))), (1, .inl v1), (2, .inl x2), (3, .inl v44), (4, .inl v65)] ⟨rfl, rfl, rfl, rfl, rfl, trivial⟩ ?_
                  exact hj43 _ _ h
                rcases bK_in h with ⟨c1, h⟩ | ⟨c1, h⟩
                · refine b_icT (t := 140) tb_X4_addParts r_X4_addParts_104 rfl ((nNe_c _ _).symm.trans c1) ?_
                  refine b_iln (pc' := 141) (a := .inl v44) tb_X4_addParts r_X4_addParts_140 rfl rfl rfl ?_
                  refine b_ic (pc' := 142) (3) tb_X4_addParts r_X4_addParts_141 rfl rfl ?_
                  refine jn_in (R := fun (j150 : ( Nat → RN)) => ∀ (M66 : Nat), j150 M66 = some r → SN l g D sl 3 0 q q 57 150 [(0, .inr (.inr (.inl 28))), (1, .inl v1), (2, .inl x2), (3, .inl v44), (4, .inl x45)] [] M66 (PR r)) h (fun M66 h => ?_) (fun j150 hj150 h => ?_)
                  · skip
                    refine b_aln (pc' := 151) (a := .inr (.inr (.inl 28))) tb_X4_addParts r_X4_addParts_150 rfl rfl rfl ?_
                    refine b_gr (pc' := 154) tb_X4_addParts r_X4_addParts_151 tF_28_4_0 rfl ?_
                    obtain ⟨v67, cv67, h⟩ := rK_in h
                    refine b_gi (pc' := 157) tb_X4_addParts r_X4_addParts_154 tF_11_8_2 cv67 rfl ?_
                    refine b_st (pc' := 159) [(7, .inl v67), (0, .inr (.inr (.inl 28))), (1, .inl v1), (2, .inl x2), (3, .inl v44), (4, .inl x45)] tb_X4_addParts r_X4_addParts_157 rfl rfl rfl rfl ?_
                    refine b_aln (pc' := 160) (a := .inr (.inr (.inl 28))) tb_X4_addParts r_X4_addParts_159 rfl rfl rfl ?_
                    refine b_iln (pc' := 161) (a := .inl x2) tb_X4_addParts r_X4_addParts_160 rfl rfl rfl ?_
                    refine b_il (pc' := 163) (a := .inl x45) tb_X4_addParts r_X4_addParts_161 rfl rfl rfl ?_
                    obtain ⟨M68, oM68, h⟩ := cV_in h
                    refine b_vV (pc' := 166) tb_X4_addParts r_X4_addParts_163 tb_X4_writePart mo_X4_writePart (by decide) rfl rfl oM68 (fun r hr => snd_X4_writePart hr) (by decide) rfl rfl rfl ?_
                    refine b_aln (pc' := 167) (a := .inr (.inr (.inl 28))) tb_X4_addParts r_X4_addParts_166 rfl rfl rfl ?_
                    refine b_gr (pc' := 170) tb_X4_addParts r_X4_addParts_167 tF_28_4_13 rfl ?_
                    refine b_iln (pc' := 171) (a := .inl x2) tb_X4_addParts r_X4_addParts_170 rfl rfl rfl ?_
                    refine b_bi (pc' := 173) (32) tb_X4_addParts r_X4_addParts_171 rfl rfl rfl ?_
                    refine b_mul (pc' := 174) tb_X4_addParts r_X4_addParts_173 rfl ?_
                    refine b_il (pc' := 176) (a := .inl x45) tb_X4_addParts r_X4_addParts_174 rfl rfl rfl ?_
                    refine b_add (pc' := 177) tb_X4_addParts r_X4_addParts_176 rfl ?_
                    refine b_aln (pc' := 178) (a := .inr (.inr (.inl 28))) tb_X4_addParts r_X4_addParts_177 rfl rfl rfl ?_
                    refine b_il (pc' := 180) (a := .inl v67) tb_X4_addParts r_X4_addParts_178 rfl rfl rfl ?_
                    refine b_aln (pc' := 181) (a := .inr (.inr (.inl 28))) tb_X4_addParts r_X4_addParts_180 rfl rfl rfl ?_
                    refine b_gr (pc' := 184) tb_X4_addParts r_X4_addParts_181 tF_28_4_0 rfl ?_
                    obtain ⟨v69, cv69, h⟩ := rK_in h
                    refine b_gi (pc' := 187) tb_X4_addParts r_X4_addParts_184 tF_11_8_2 cv69 rfl ?_
                    refine b_il (pc' := 189) (a := .inl v67) tb_X4_addParts r_X4_addParts_187 rfl rfl rfl ?_
                    refine b_sub (pc' := 190) tb_X4_addParts r_X4_addParts_189 rfl ?_
                    refine b_iln (pc' := 191) (a := .inl x2) tb_X4_addParts r_X4_addParts_190 rfl rfl rfl ?_
                    refine b_il (pc' := 193) (a := .inl x45) tb_X4_addParts r_X4_addParts_191 rfl rfl rfl ?_
                    obtain ⟨v70, ev70, h⟩ := fK_v h
                    rw [ev70]
                    obtain ⟨v72, M71, ov72, h⟩ := cI_in h
                    refine b_vI (pc' := 196) tb_X4_addParts r_X4_addParts_193 tb_X4_add mo_X4_add (by decide) rfl rfl ov72 (fun r hr => snd_X4_add hr) (by decide) rfl rfl rfl ?_
                    obtain ⟨v73, ev73, h⟩ := fK_v h
                    rw [ev73]
                    obtain ⟨M74, dM74, cM74, h⟩ := sK_in h
                    refine b_is (pc' := 197) tb_X4_addParts r_X4_addParts_196 tA_38 dM74 cM74 rfl ?_
                    refine b_sub9 [(0, .inr (.inr (.inl 28))), (1, .inl v1), (2, .inl x2), (3, .inl v44), (4, .inl x45)] ⟨rfl, rfl, rfl, rfl, rfl, trivial⟩ ?_
                    exact hj197 _ h
                  rcases bK_in h with ⟨c1, h⟩ | ⟨c1, h⟩
                  · refine b_icT (t := 150) tb_X4_addParts r_X4_addParts_142 rfl ((nEq_c _ _).symm.trans c1) ?_
                    refine b_sub9 [(0, .inr (.inr (.inl 28))), (1, .inl v1), (2, .inl x2), (3, .inl v44), (4, .inl x45)] ⟨rfl, rfl, rfl, rfl, rfl, trivial⟩ ?_
                    exact hj150 _ h
                  · refine b_icF (t := 150) (pc' := 145) tb_X4_addParts r_X4_addParts_142 rfl ((nEq_c _ _).symm.trans c1) rfl ?_
                    refine b_il (pc' := 147) (a := .inl s60) tb_X4_addParts r_X4_addParts_145 rfl rfl rfl ?_
                    rcases bK_in h with ⟨c1, h⟩ | ⟨c1, h⟩
                    · refine b_ifT (t := 197) tb_X4_addParts r_X4_addParts_147 rfl ((zEq_c _).symm.trans c1) ?_
                      refine b_sub9 [(0, .inr (.inr (.inl 28))), (1, .inl v1), (2, .inl x2), (3, .inl v44), (4, .inl x45)] ⟨rfl, rfl, rfl, rfl, rfl, trivial⟩ ?_
                      exact hj197 _ h
                    · refine b_ifF (t := 197) (pc' := 150) tb_X4_addParts r_X4_addParts_147 rfl ((zEq_c _).symm.trans c1) rfl ?_
                      refine b_sub9 [(0, .inr (.inr (.inl 28))), (1, .inl v1), (2, .inl x2), (3, .inl v44), (4, .inl x45)] ⟨rfl, rfl, rfl, rfl, rfl, trivial⟩ ?_
                      exact hj150 _ h
                · refine b_icF (t := 140) (pc' := 107) tb_X4_addParts r_X4_addParts_104 rfl ((nNe_c _ _).symm.trans c1) rfl ?_
                  refine b_il (pc' := 109) (a := .inl x45) tb_X4_addParts r_X4_addParts_107 rfl rfl rfl ?_
                  obtain ⟨v76, M75, ov76, h⟩ := cI_in h
                  refine b_sI (pc' := 112) tb_X4_addParts r_X4_addParts_109 tb_J6_numberOfTrailingZeros_0f7a4 mo_J6_numberOfTrailingZeros_0f7a4 (by decide) rfl rfl ov76 (fun r hr => snd_J6_numberOfTrailingZeros_0f7a4 hr) (by decide) rfl rfl rfl ?_
                  refine b_st (pc' := 114) [(7, .inl v76), (6, .inl s60), (0, .inr (.inr (.inl 28))), (1, .inl v1), (2, .inl x2), (3, .inl v44), (4, .inl x45)] tb_X4_addParts r_X4_addParts_112 rfl rfl rfl rfl ?_
                  refine b_aln (pc' := 115) (a := .inr (.inr (.inl 28))) tb_X4_addParts r_X4_addParts_114 rfl rfl rfl ?_
                  refine b_gr (pc' := 118) tb_X4_addParts r_X4_addParts_115 tF_28_4_13 rfl ?_
                  refine b_iln (pc' := 119) (a := .inl x2) tb_X4_addParts r_X4_addParts_118 rfl rfl rfl ?_
                  refine b_bi (pc' := 121) (32) tb_X4_addParts r_X4_addParts_119 rfl rfl rfl ?_
                  refine b_mul (pc' := 122) tb_X4_addParts r_X4_addParts_121 rfl ?_
                  refine b_il (pc' := 124) (a := .inl x45) tb_X4_addParts r_X4_addParts_122 rfl rfl rfl ?_
                  refine b_add (pc' := 125) tb_X4_addParts r_X4_addParts_124 rfl ?_
                  refine b_aln (pc' := 126) (a := .inr (.inr (.inl 28))) tb_X4_addParts r_X4_addParts_125 rfl rfl rfl ?_
                  refine b_gr (pc' := 129) tb_X4_addParts r_X4_addParts_126 tF_28_4_12 rfl ?_
                  refine b_iln (pc' := 130) (a := .inl x2) tb_X4_addParts r_X4_addParts_129 rfl rfl rfl ?_
                  refine b_ic (pc' := 131) (5) tb_X4_addParts r_X4_addParts_130 rfl rfl ?_
                  refine b_mul (pc' := 132) tb_X4_addParts r_X4_addParts_131 rfl ?_
                  refine b_il (pc' := 134) (a := .inl v76) tb_X4_addParts r_X4_addParts_132 rfl rfl rfl ?_
                  refine b_add (pc' := 135) tb_X4_addParts r_X4_addParts_134 rfl ?_
                  obtain ⟨v77, ev77, h⟩ := fK_v h
                  rw [ev77]
                  obtain ⟨v78, dv78, cv78, h⟩ := lK_in h
                  refine b_ia (pc' := 136) tb_X4_addParts r_X4_addParts_135 tA_37 dv78 cv78 rfl ?_
                  obtain ⟨v79, ev79, h⟩ := fK_v h
                  rw [ev79]
                  obtain ⟨M80, dM80, cM80, h⟩ := sK_in h
                  refine b_is (pc' := 137) tb_X4_addParts r_X4_addParts_136 tA_38 dM80 cM80 rfl ?_
                  refine b_goto (pc' := 197) tb_X4_addParts r_X4_addParts_137 rfl ?_
                  refine b_sub9 [(0, .inr (.inr (.inl 28))), (1, .inl v1), (2, .inl x2), (3, .inl v44), (4, .inl x45)] ⟨rfl, rfl, rfl, rfl, rfl, trivial⟩ ?_
                  exact hj197 _ h
              rcases bK_in h with ⟨c1, h⟩ | ⟨c1, h⟩
              · refine b_icT (t := 95) tb_X4_addParts r_X4_addParts_88 rfl ((nNe_c _ _).symm.trans c1) ?_
                refine b_ic (pc' := 96) (0) tb_X4_addParts r_X4_addParts_95 rfl rfl ?_
                refine b_sub9 [(0, .inr (.inr (.inl 28))), (1, .inl v1), (2, .inl x2), (3, .inl v44), (4, .inl x45)] ⟨rfl, rfl, rfl, rfl, rfl, trivial⟩ ?_
                exact hj96 _ _ h
              · refine b_icF (t := 95) (pc' := 91) tb_X4_addParts r_X4_addParts_88 rfl ((nNe_c _ _).symm.trans c1) rfl ?_
                refine b_ic (pc' := 92) (1) tb_X4_addParts r_X4_addParts_91 rfl rfl ?_
                refine b_goto (pc' := 96) tb_X4_addParts r_X4_addParts_92 rfl ?_
                refine b_sub9 [(0, .inr (.inr (.inl 28))), (1, .inl v1), (2, .inl x2), (3, .inl v44), (4, .inl x45)] ⟨rfl, rfl, rfl, rfl, rfl, trivial⟩ ?_
                exact hj96 _ _ h
      refine b_sub9 [(0, .inr (.inr (.inl 28))), (1, .inl v1), (2, .inl x2), (3, .inl v44), (4, .inl 1)] ⟨rfl, rfl, rfl, rfl, rfl, trivial⟩ ?_
      exact hj43 _ _ h
  refine b_sub9 [(0, .inr (.inr (.inl 28))), (1, .inl v1), (2, .inl 0)] ⟨rfl, rfl, rfl, trivial⟩ ?_
  exact hj7 _ _ h
noncomputable def m_X4_addIdentities (M0 : Nat) : RN :=
  lp (fun _ _ => none) (fun (j2 : (Nat →  Nat → RN)) => fun (x1 : Nat) (M2 : Nat) => rK M2 3 (fun v3 => bK (nGe x1 v3) (some (1, M2)) (sK M2 2078 12 x1 4294967295 (fun M4 => lK M4 40 12 x1 (fun v5 => jn (fun (M6 : Nat) => fK (oAdd x1 1) (fun v7 => j2 v7 M6)) (fun (j111 : ( Nat → RN)) => bK (nEq v5 4294967295) (j111 M4) (rK M4 276 (fun v8 => bK (nGe v8 27460) (j111 M4) (rK M4 276 (fun v9 => lK M4 40 12 x1 (fun v10 => sK2 M4 281 780 7500 7656 v9 (oAdd 32 (oMul v10 8)) (fun M11 => rK M11 276 (fun v12 => pK M11 276 (oAdd v12 1) (fun M13 => rK M13 276 (fun v14 => fK (oSub v14 1) (fun v15 => cI (m_X4_add v15 1 0 0 M13) (fun v17 M16 => sK M16 2078 12 x1 v17 (fun M18 => j111 M18)))))))))))))))))) (fun (j2 : (Nat →  Nat → RN)) => j2 0 M0)
set_option maxRecDepth 100000 in
theorem snd_X4_addIdentities {l : Launch} {g : GV} {D : va_G} {sl q : Nat} {M0 : Nat} {r : Nat × Nat} (h : m_X4_addIdentities M0 = some r) : SN l g D sl 2 0 q q 59 0 [(0, .inr (.inr (.inl 28)))] [] M0 (PR r) := by
  unfold m_X4_addIdentities at h
  refine b_ic (pc' := 1) (0) tb_X4_addIdentities r_X4_addIdentities_0 rfl rfl ?_
  refine b_stn (pc' := 2) [(1, .inl 0), (0, .inr (.inr (.inl 28)))] tb_X4_addIdentities r_X4_addIdentities_1 rfl rfl rfl rfl ?_
  refine lp_in (R := fun (j2 : (Nat → Nat → RN)) => ∀ (x1 M2 : Nat), j2 x1 M2 = some r → SN l g D sl 2 0 q q 59 2 [(0, .inr (.inr (.inl 28))), (1, .inl x1)] [] M2 (PR r)) h (fun _ _ h => by cases h) (fun j2 hj2 => ?_) (fun j2 hj2 h => ?_)
  · intro x1 M2 h
    refine b_iln (pc' := 3) (a := .inl x1) tb_X4_addIdentities r_X4_addIdentities_2 rfl rfl rfl ?_
    refine b_aln (pc' := 4) (a := .inr (.inr (.inl 28))) tb_X4_addIdentities r_X4_addIdentities_3 rfl rfl rfl ?_
    refine b_gr (pc' := 7) tb_X4_addIdentities r_X4_addIdentities_4 tF_28_4_1 rfl ?_
    obtain ⟨v3, cv3, h⟩ := rK_in h
    refine b_gi (pc' := 10) tb_X4_addIdentities r_X4_addIdentities_7 tF_1_7_1 cv3 rfl ?_
    rcases bK_in h with ⟨c1, h⟩ | ⟨c1, h⟩
    · refine b_icT (t := 117) tb_X4_addIdentities r_X4_addIdentities_10 rfl ((nGe_c _ _).symm.trans c1) ?_
      exact b_vo tb_X4_addIdentities r_X4_addIdentities_117 (sj h).symm
    · refine b_icF (t := 117) (pc' := 13) tb_X4_addIdentities r_X4_addIdentities_10 rfl ((nGe_c _ _).symm.trans c1) rfl ?_
      refine b_aln (pc' := 14) (a := .inr (.inr (.inl 28))) tb_X4_addIdentities r_X4_addIdentities_13 rfl rfl rfl ?_
      refine b_gr (pc' := 17) tb_X4_addIdentities r_X4_addIdentities_14 tF_28_4_14 rfl ?_
      refine b_iln (pc' := 18) (a := .inl x1) tb_X4_addIdentities r_X4_addIdentities_17 rfl rfl rfl ?_
      refine b_ic (pc' := 19) (4294967295) tb_X4_addIdentities r_X4_addIdentities_18 rfl rfl ?_
      obtain ⟨M4, dM4, cM4, h⟩ := sK_in h
      refine b_is (pc' := 20) tb_X4_addIdentities r_X4_addIdentities_19 tA_39 dM4 cM4 rfl ?_
      refine b_aln (pc' := 21) (a := .inr (.inr (.inl 28))) tb_X4_addIdentities r_X4_addIdentities_20 rfl rfl rfl ?_
      refine b_gr (pc' := 24) tb_X4_addIdentities r_X4_addIdentities_21 tF_28_4_1 rfl ?_
      refine b_gr (pc' := 27) tb_X4_addIdentities r_X4_addIdentities_24 tF_1_7_6 rfl ?_
      refine b_iln (pc' := 28) (a := .inl x1) tb_X4_addIdentities r_X4_addIdentities_27 rfl rfl rfl ?_
      obtain ⟨v5, dv5, cv5, h⟩ := lK_in h
      refine b_ia (pc' := 29) tb_X4_addIdentities r_X4_addIdentities_28 tA_6 dv5 cv5 rfl ?_
      refine b_ic (pc' := 30) (4294967295) tb_X4_addIdentities r_X4_addIdentities_29 rfl rfl ?_
      refine jn_in (R := fun (j111 : ( Nat → RN)) => ∀ (M6 : Nat), j111 M6 = some r → SN l g D sl 2 0 q q 59 111 [(0, .inr (.inr (.inl 28))), (1, .inl x1)] [] M6 (PR r)) h (fun M6 h => ?_) (fun j111 hj111 h => ?_)
      · skip
        refine b_inc (pc' := 114) (v := x1) (n := 1) [(1, .inl (oAdd x1 1)), (0, .inr (.inr (.inl 28)))] tb_X4_addIdentities r_X4_addIdentities_111 rfl rfl rfl rfl rfl ?_
        obtain ⟨v7, ev7, h⟩ := fK_v h
        rw [ev7]
        refine b_goto (pc' := 2) tb_X4_addIdentities r_X4_addIdentities_114 rfl ?_
        refine b_sub9 [(0, .inr (.inr (.inl 28))), (1, .inl v7)] ⟨rfl, rfl, trivial⟩ ?_
        exact hj2 _ _ h
      rcases bK_in h with ⟨c1, h⟩ | ⟨c1, h⟩
      · refine b_icT (t := 111) tb_X4_addIdentities r_X4_addIdentities_30 rfl ((nEq_c _ _).symm.trans c1) ?_
        exact hj111 _ h
      · refine b_icF (t := 111) (pc' := 33) tb_X4_addIdentities r_X4_addIdentities_30 rfl ((nEq_c _ _).symm.trans c1) rfl ?_
        refine b_aln (pc' := 34) (a := .inr (.inr (.inl 28))) tb_X4_addIdentities r_X4_addIdentities_33 rfl rfl rfl ?_
        refine b_gr (pc' := 37) tb_X4_addIdentities r_X4_addIdentities_34 tF_28_4_0 rfl ?_
        obtain ⟨v8, cv8, h⟩ := rK_in h
        refine b_gi (pc' := 40) tb_X4_addIdentities r_X4_addIdentities_37 tF_11_8_2 cv8 rfl ?_
        refine b_si (pc' := 43) (27460) tb_X4_addIdentities r_X4_addIdentities_40 rfl rfl rfl ?_
        rcases bK_in h with ⟨c1, h⟩ | ⟨c1, h⟩
        · refine b_icT (t := 111) tb_X4_addIdentities r_X4_addIdentities_43 rfl ((nGe_c _ _).symm.trans c1) ?_
          exact hj111 _ h
        · refine b_icF (t := 111) (pc' := 46) tb_X4_addIdentities r_X4_addIdentities_43 rfl ((nGe_c _ _).symm.trans c1) rfl ?_
          refine b_aln (pc' := 47) (a := .inr (.inr (.inl 28))) tb_X4_addIdentities r_X4_addIdentities_46 rfl rfl rfl ?_
          refine b_gr (pc' := 50) tb_X4_addIdentities r_X4_addIdentities_47 tF_28_4_0 rfl ?_
          refine b_gr (pc' := 53) tb_X4_addIdentities r_X4_addIdentities_50 tF_11_8_1 rfl ?_
          refine b_aln (pc' := 54) (a := .inr (.inr (.inl 28))) tb_X4_addIdentities r_X4_addIdentities_53 rfl rfl rfl ?_
          refine b_gr (pc' := 57) tb_X4_addIdentities r_X4_addIdentities_54 tF_28_4_0 rfl ?_
          obtain ⟨v9, cv9, h⟩ := rK_in h
          refine b_gi (pc' := 60) tb_X4_addIdentities r_X4_addIdentities_57 tF_11_8_2 cv9 rfl ?_
          refine b_bi (pc' := 62) (32) tb_X4_addIdentities r_X4_addIdentities_60 rfl rfl rfl ?_
          refine b_aln (pc' := 63) (a := .inr (.inr (.inl 28))) tb_X4_addIdentities r_X4_addIdentities_62 rfl rfl rfl ?_
          refine b_gr (pc' := 66) tb_X4_addIdentities r_X4_addIdentities_63 tF_28_4_1 rfl ?_
          refine b_gr (pc' := 69) tb_X4_addIdentities r_X4_addIdentities_66 tF_1_7_6 rfl ?_
          refine b_iln (pc' := 70) (a := .inl x1) tb_X4_addIdentities r_X4_addIdentities_69 rfl rfl rfl ?_
          obtain ⟨v10, dv10, cv10, h⟩ := lK_in h
          refine b_ia (pc' := 71) tb_X4_addIdentities r_X4_addIdentities_70 tA_6 dv10 cv10 rfl ?_
          refine b_bi (pc' := 73) (8) tb_X4_addIdentities r_X4_addIdentities_71 rfl rfl rfl ?_
          refine b_mul (pc' := 74) tb_X4_addIdentities r_X4_addIdentities_73 rfl ?_
          refine b_add (pc' := 75) tb_X4_addIdentities r_X4_addIdentities_74 rfl ?_
          obtain ⟨M11, _, dM11, cM11, h⟩ := sK2_in h
          refine b_is2 (pc' := 76) tb_X4_addIdentities r_X4_addIdentities_75 tA_12 dM11 cM11 rfl ?_
          refine b_aln (pc' := 77) (a := .inr (.inr (.inl 28))) tb_X4_addIdentities r_X4_addIdentities_76 rfl rfl rfl ?_
          refine b_gr (pc' := 80) tb_X4_addIdentities r_X4_addIdentities_77 tF_28_4_0 rfl ?_
          refine b_dup (pc' := 81) tb_X4_addIdentities r_X4_addIdentities_80 rfl rfl ?_
          obtain ⟨v12, cv12, h⟩ := rK_in h
          refine b_gi (pc' := 84) tb_X4_addIdentities r_X4_addIdentities_81 tF_11_8_2 cv12 rfl ?_
          refine b_ic (pc' := 85) (1) tb_X4_addIdentities r_X4_addIdentities_84 rfl rfl ?_
          refine b_add (pc' := 86) tb_X4_addIdentities r_X4_addIdentities_85 rfl ?_
          obtain ⟨M13, cM13, h⟩ := pK_in h
          refine b_pi (pc' := 89) tb_X4_addIdentities r_X4_addIdentities_86 rfl tF_11_8_2 cM13 rfl ?_
          refine b_aln (pc' := 90) (a := .inr (.inr (.inl 28))) tb_X4_addIdentities r_X4_addIdentities_89 rfl rfl rfl ?_
          refine b_gr (pc' := 93) tb_X4_addIdentities r_X4_addIdentities_90 tF_28_4_14 rfl ?_
          refine b_iln (pc' := 94) (a := .inl x1) tb_X4_addIdentities r_X4_addIdentities_93 rfl rfl rfl ?_
          refine b_aln (pc' := 95) (a := .inr (.inr (.inl 28))) tb_X4_addIdentities r_X4_addIdentities_94 rfl rfl rfl ?_
          refine b_aln (pc' := 96) (a := .inr (.inr (.inl 28))) tb_X4_addIdentities r_X4_addIdentities_95 rfl rfl rfl ?_
          refine b_gr (pc' := 99) tb_X4_addIdentities r_X4_addIdentities_96 tF_28_4_0 rfl ?_
          obtain ⟨v14, cv14, h⟩ := rK_in h
          refine b_gi (pc' := 102) tb_X4_addIdentities r_X4_addIdentities_99 tF_11_8_2 cv14 rfl ?_
          refine b_ic (pc' := 103) (1) tb_X4_addIdentities r_X4_addIdentities_102 rfl rfl ?_
          refine b_sub (pc' := 104) tb_X4_addIdentities r_X4_addIdentities_103 rfl ?_
          refine b_ic (pc' := 105) (1) tb_X4_addIdentities r_X4_addIdentities_104 rfl rfl ?_
          refine b_ic (pc' := 106) (0) tb_X4_addIdentities r_X4_addIdentities_105 rfl rfl ?_
          refine b_ic (pc' := 107) (0) tb_X4_addIdentities r_X4_addIdentities_106 rfl rfl ?_
          obtain ⟨v15, ev15, h⟩ := fK_v h
          rw [ev15]
          obtain ⟨v17, M16, ov17, h⟩ := cI_in h
          refine b_vI (pc' := 110) tb_X4_addIdentities r_X4_addIdentities_107 tb_X4_add mo_X4_add (by decide) rfl rfl ov17 (fun r hr => snd_X4_add hr) (by decide) rfl rfl rfl ?_
          obtain ⟨M18, dM18, cM18, h⟩ := sK_in h
          refine b_is (pc' := 111) tb_X4_addIdentities r_X4_addIdentities_110 tA_39 dM18 cM18 rfl ?_
          exact hj111 _ h
  refine b_sub9 [(0, .inr (.inr (.inl 28))), (1, .inl 0)] ⟨rfl, rfl, trivial⟩ ?_
  exact hj2 _ _ h
