/-! more of them -/
noncomputable def m_X6_normalForm (a1 a2 : Nat) (M0 : Nat) : RN :=
  rK M0 2091 (fun v1 => cI (m_X6_begin a1 M0) (fun v3 M2 => lp (fun _ _ _ => none) (fun (j15 : (Nat → Nat →  Nat → RN)) => fun (x4 : Nat) (x5 : Nat) (M6 : Nat) => jn (fun (M7 : Nat) => pK M7 2091 v1 (fun M8 => bK (nNe x4 4294967295) (some (Nat.add x4 2, M8)) none)) (fun (j109 : ( Nat → RN)) => bK (nGe x5 1000000) (j109 M6) (bK (nNe x4 4294967295) (j109 M6) (rK M6 2091 (fun v9 => fK (oSub v9 1) (fun v10 => lK M6 2125 11 v10 (fun v11 => jn (fun (x12 : Nat) (M13 : Nat) => fK (oAdd x5 1) (fun v14 => j15 x12 v14 M13)) (fun (j103 : (Nat →  Nat → RN)) => bK (zLe v11) (cI (m_X6_finish v10 v1 a2 M6) (fun v16 M15 => j103 v16 M15)) (lK M6 2114 11 v10 (fun v17 => cI (m_X8_end v17 M6) (fun v19 M18 => sK M18 2114 11 v10 v19 (fun M20 => lK M20 2125 11 v10 (fun v21 => sK M20 2125 11 v10 (oSub v21 1) (fun M22 => cI (m_X6_begin v17 M22) (fun v24 M23 => j103 v24 M23))))))))))))))) (fun (j15 : (Nat → Nat →  Nat → RN)) => j15 v3 0 M2)))
set_option maxRecDepth 100000 in
theorem snd_X6_normalForm {l : Launch} {g : GV} {D : va_G} {sl q : Nat} {a1 a2 M0 : Nat} {r : Nat × Nat} (h : m_X6_normalForm a1 a2 M0 = some r) : SN l g D sl 189 0 q q 65 0 [(0, .inr (.inr (.inl 40))), (1, .inl a1), (2, .inl a2)] [] M0 (PR r) := by
  unfold m_X6_normalForm at h
  refine b_aln (pc' := 1) (a := .inr (.inr (.inl 40))) tb_X6_normalForm r_X6_normalForm_0 rfl rfl rfl ?_
  obtain ⟨v1, cv1, h⟩ := rK_in h
  refine b_gi (pc' := 4) tb_X6_normalForm r_X6_normalForm_1 tF_40_6_4 cv1 rfl ?_
  refine b_stn (pc' := 5) [(3, .inl v1), (0, .inr (.inr (.inl 40))), (1, .inl a1), (2, .inl a2)] tb_X6_normalForm r_X6_normalForm_4 rfl rfl rfl rfl ?_
  refine b_aln (pc' := 6) (a := .inr (.inr (.inl 40))) tb_X6_normalForm r_X6_normalForm_5 rfl rfl rfl ?_
  refine b_iln (pc' := 7) (a := .inl a1) tb_X6_normalForm r_X6_normalForm_6 rfl rfl rfl ?_
  obtain ⟨v3, M2, ov3, h⟩ := cI_in h
  refine b_vI (pc' := 10) tb_X6_normalForm r_X6_normalForm_7 tb_X6_begin mo_X6_begin (by decide) rfl rfl ov3 (fun r hr => snd_X6_begin hr) (by decide) rfl rfl rfl ?_
  refine b_st (pc' := 12) [(4, .inl v3), (3, .inl v1), (0, .inr (.inr (.inl 40))), (1, .inl a1), (2, .inl a2)] tb_X6_normalForm r_X6_normalForm_10 rfl rfl rfl rfl ?_
  refine b_ic (pc' := 13) (0) tb_X6_normalForm r_X6_normalForm_12 rfl rfl ?_
  refine b_st (pc' := 15) [(5, .inl 0), (4, .inl v3), (3, .inl v1), (0, .inr (.inr (.inl 40))), (1, .inl a1), (2, .inl a2)] tb_X6_normalForm r_X6_normalForm_13 rfl rfl rfl rfl ?_
  refine lp_in (R := fun (j15 : (Nat → Nat → Nat → RN)) => ∀ (x4 x5 M6 : Nat), j15 x4 x5 M6 = some r → SN l g D sl 189 0 q q 65 15 [(0, .inr (.inr (.inl 40))), (2, .inl a2), (3, .inl v1), (4, .inl x4), (5, .inl x5)] [] M6 (PR r)) h (fun _ _ _ h => by cases h) (fun j15 hj15 => ?_) (fun j15 hj15 h => ?_)
  · intro x4 x5 M6 h
    refine b_il (pc' := 17) (a := .inl x5) tb_X6_normalForm r_X6_normalForm_15 rfl rfl rfl ?_
    refine b_ldc (pc' := 19) tb_X6_normalForm r_X6_normalForm_17 rfl ?_
    refine jn_in (R := fun (j109 : ( Nat → RN)) => ∀ (M7 : Nat), j109 M7 = some r → SN l g D sl 189 0 q q 65 109 [(0, .inr (.inr (.inl 40))), (3, .inl v1), (4, .inl x4)] [] M7 (PR r)) h (fun M7 h => ?_) (fun j109 hj109 h => ?_)
    · skip
      refine b_aln (pc' := 110) (a := .inr (.inr (.inl 40))) tb_X6_normalForm r_X6_normalForm_109 rfl rfl rfl ?_
      refine b_iln (pc' := 111) (a := .inl v1) tb_X6_normalForm r_X6_normalForm_110 rfl rfl rfl ?_
      obtain ⟨M8, cM8, h⟩ := pK_in h
      refine b_pi (pc' := 114) tb_X6_normalForm r_X6_normalForm_111 rfl tF_40_6_4 cM8 rfl ?_
      refine b_il (pc' := 116) (a := .inl x4) tb_X6_normalForm r_X6_normalForm_114 rfl rfl rfl ?_
      refine b_ic (pc' := 117) (4294967295) tb_X6_normalForm r_X6_normalForm_116 rfl rfl ?_
      obtain ⟨c1, h⟩ := bK_t h
      refine b_icT (t := 125) tb_X6_normalForm r_X6_normalForm_117 rfl ((nNe_c _ _).symm.trans c1) ?_
      refine b_il (pc' := 127) (a := .inl x4) tb_X6_normalForm r_X6_normalForm_125 rfl rfl rfl ?_
      exact b_ri tb_X6_normalForm r_X6_normalForm_127 rfl (sj h).symm
    rcases bK_in h with ⟨c1, h⟩ | ⟨c1, h⟩
    · refine b_icT (t := 109) tb_X6_normalForm r_X6_normalForm_19 rfl ((nGe_c _ _).symm.trans c1) ?_
      refine b_sub9 [(0, .inr (.inr (.inl 40))), (3, .inl v1), (4, .inl x4)] ⟨rfl, rfl, rfl, trivial⟩ ?_
      exact hj109 _ h
    · refine b_icF (t := 109) (pc' := 22) tb_X6_normalForm r_X6_normalForm_19 rfl ((nGe_c _ _).symm.trans c1) rfl ?_
      refine b_il (pc' := 24) (a := .inl x4) tb_X6_normalForm r_X6_normalForm_22 rfl rfl rfl ?_
      refine b_ic (pc' := 25) (4294967295) tb_X6_normalForm r_X6_normalForm_24 rfl rfl ?_
      rcases bK_in h with ⟨c1, h⟩ | ⟨c1, h⟩
      · refine b_icT (t := 109) tb_X6_normalForm r_X6_normalForm_25 rfl ((nNe_c _ _).symm.trans c1) ?_
        refine b_sub9 [(0, .inr (.inr (.inl 40))), (3, .inl v1), (4, .inl x4)] ⟨rfl, rfl, rfl, trivial⟩ ?_
        exact hj109 _ h
      · refine b_icF (t := 109) (pc' := 28) tb_X6_normalForm r_X6_normalForm_25 rfl ((nNe_c _ _).symm.trans c1) rfl ?_
        refine b_aln (pc' := 29) (a := .inr (.inr (.inl 40))) tb_X6_normalForm r_X6_normalForm_28 rfl rfl rfl ?_
        obtain ⟨v9, cv9, h⟩ := rK_in h
        refine b_gi (pc' := 32) tb_X6_normalForm r_X6_normalForm_29 tF_40_6_4 cv9 rfl ?_
        refine b_ic (pc' := 33) (1) tb_X6_normalForm r_X6_normalForm_32 rfl rfl ?_
        refine b_sub (pc' := 34) tb_X6_normalForm r_X6_normalForm_33 rfl ?_
        obtain ⟨v10, ev10, h⟩ := fK_v h
        rw [ev10]
        refine b_st (pc' := 36) [(6, .inl v10), (0, .inr (.inr (.inl 40))), (2, .inl a2), (3, .inl v1), (4, .inl x4), (5, .inl x5)] tb_X6_normalForm r_X6_normalForm_34 rfl rfl rfl rfl ?_
        refine b_aln (pc' := 37) (a := .inr (.inr (.inl 40))) tb_X6_normalForm r_X6_normalForm_36 rfl rfl rfl ?_
        refine b_gr (pc' := 40) tb_X6_normalForm r_X6_normalForm_37 tF_40_6_8 rfl ?_
        refine b_il (pc' := 42) (a := .inl v10) tb_X6_normalForm r_X6_normalForm_40 rfl rfl rfl ?_
        obtain ⟨v11, dv11, cv11, h⟩ := lK_in h
        refine b_ia (pc' := 43) tb_X6_normalForm r_X6_normalForm_42 tA_44 dv11 cv11 rfl ?_
        refine jn_in (R := fun (j103 : (Nat → Nat → RN)) => ∀ (x12 M13 : Nat), j103 x12 M13 = some r → SN l g D sl 189 0 q q 65 103 [(0, .inr (.inr (.inl 40))), (2, .inl a2), (3, .inl v1), (4, .inl x12), (5, .inl x5)] [] M13 (PR r)) h (fun x12 M13 h => ?_) (fun j103 hj103 h => ?_)
        · skip
          refine b_inc (pc' := 106) (v := x5) (n := 1) [(5, .inl (oAdd x5 1)), (0, .inr (.inr (.inl 40))), (2, .inl a2), (3, .inl v1), (4, .inl x12)] tb_X6_normalForm r_X6_normalForm_103 rfl rfl rfl rfl rfl ?_
          obtain ⟨v14, ev14, h⟩ := fK_v h
          rw [ev14]
          refine b_goto (pc' := 15) tb_X6_normalForm r_X6_normalForm_106 rfl ?_
          refine b_sub9 [(0, .inr (.inr (.inl 40))), (2, .inl a2), (3, .inl v1), (4, .inl x12), (5, .inl v14)] ⟨rfl, rfl, rfl, rfl, rfl, trivial⟩ ?_
          exact hj15 _ _ _ h
        rcases bK_in h with ⟨c1, h⟩ | ⟨c1, h⟩
        · refine b_ifT (t := 93) tb_X6_normalForm r_X6_normalForm_43 rfl ((zLe_c _).symm.trans c1) ?_
          refine b_aln (pc' := 94) (a := .inr (.inr (.inl 40))) tb_X6_normalForm r_X6_normalForm_93 rfl rfl rfl ?_
          refine b_il (pc' := 96) (a := .inl v10) tb_X6_normalForm r_X6_normalForm_94 rfl rfl rfl ?_
          refine b_iln (pc' := 97) (a := .inl v1) tb_X6_normalForm r_X6_normalForm_96 rfl rfl rfl ?_
          refine b_iln (pc' := 98) (a := .inl a2) tb_X6_normalForm r_X6_normalForm_97 rfl rfl rfl ?_
          obtain ⟨v16, M15, ov16, h⟩ := cI_in h
          refine b_vI (pc' := 101) tb_X6_normalForm r_X6_normalForm_98 tb_X6_finish mo_X6_finish (by decide) rfl rfl ov16 (fun r hr => snd_X6_finish hr) (by decide) rfl rfl rfl ?_
          refine b_st (pc' := 103) [(4, .inl v16), (6, .inl v10), (0, .inr (.inr (.inl 40))), (2, .inl a2), (3, .inl v1), (5, .inl x5)] tb_X6_normalForm r_X6_normalForm_101 rfl rfl rfl rfl ?_
          refine b_sub9 [(0, .inr (.inr (.inl 40))), (2, .inl a2), (3, .inl v1), (4, .inl v16), (5, .inl x5)] ⟨rfl, rfl, rfl, rfl, rfl, trivial⟩ ?_
          exact hj103 _ _ h
        · refine b_ifF (t := 93) (pc' := 46) tb_X6_normalForm r_X6_normalForm_43 rfl ((zLe_c _).symm.trans c1) rfl ?_
          refine b_aln (pc' := 47) (a := .inr (.inr (.inl 40))) tb_X6_normalForm r_X6_normalForm_46 rfl rfl rfl ?_
          refine b_gr (pc' := 50) tb_X6_normalForm r_X6_normalForm_47 tF_40_6_7 rfl ?_
          refine b_il (pc' := 52) (a := .inl v10) tb_X6_normalForm r_X6_normalForm_50 rfl rfl rfl ?_
          obtain ⟨v17, dv17, cv17, h⟩ := lK_in h
          refine b_ia (pc' := 53) tb_X6_normalForm r_X6_normalForm_52 tA_43 dv17 cv17 rfl ?_
          refine b_st (pc' := 55) [(7, .inl v17), (6, .inl v10), (0, .inr (.inr (.inl 40))), (2, .inl a2), (3, .inl v1), (4, .inl x4), (5, .inl x5)] tb_X6_normalForm r_X6_normalForm_53 rfl rfl rfl rfl ?_
          refine b_aln (pc' := 56) (a := .inr (.inr (.inl 40))) tb_X6_normalForm r_X6_normalForm_55 rfl rfl rfl ?_
          refine b_gr (pc' := 59) tb_X6_normalForm r_X6_normalForm_56 tF_40_6_7 rfl ?_
          refine b_il (pc' := 61) (a := .inl v10) tb_X6_normalForm r_X6_normalForm_59 rfl rfl rfl ?_
          refine b_aln (pc' := 62) (a := .inr (.inr (.inl 40))) tb_X6_normalForm r_X6_normalForm_61 rfl rfl rfl ?_
          refine b_gr (pc' := 65) tb_X6_normalForm r_X6_normalForm_62 tF_40_6_0 rfl ?_
          refine b_il (pc' := 67) (a := .inl v17) tb_X6_normalForm r_X6_normalForm_65 rfl rfl rfl ?_
          obtain ⟨v19, M18, ov19, h⟩ := cI_in h
          refine b_vI (pc' := 70) tb_X6_normalForm r_X6_normalForm_67 tb_X8_end mo_X8_end (by decide) rfl rfl ov19 (fun r hr => snd_X8_end hr) (by decide) rfl rfl rfl ?_
          obtain ⟨M20, dM20, cM20, h⟩ := sK_in h
          refine b_is (pc' := 71) tb_X6_normalForm r_X6_normalForm_70 tA_43 dM20 cM20 rfl ?_
          refine b_aln (pc' := 72) (a := .inr (.inr (.inl 40))) tb_X6_normalForm r_X6_normalForm_71 rfl rfl rfl ?_
          refine b_gr (pc' := 75) tb_X6_normalForm r_X6_normalForm_72 tF_40_6_8 rfl ?_
          refine b_il (pc' := 77) (a := .inl v10) tb_X6_normalForm r_X6_normalForm_75 rfl rfl rfl ?_
          refine b_dup2 (pc' := 78) tb_X6_normalForm r_X6_normalForm_77 rfl rfl ?_
          obtain ⟨v21, dv21, cv21, h⟩ := lK_in h
          refine b_ia (pc' := 79) tb_X6_normalForm r_X6_normalForm_78 tA_44 dv21 cv21 rfl ?_
          refine b_ic (pc' := 80) (1) tb_X6_normalForm r_X6_normalForm_79 rfl rfl ?_
          refine b_sub (pc' := 81) tb_X6_normalForm r_X6_normalForm_80 rfl ?_
          obtain ⟨M22, dM22, cM22, h⟩ := sK_in h
          refine b_is (pc' := 82) tb_X6_normalForm r_X6_normalForm_81 tA_44 dM22 cM22 rfl ?_
          refine b_aln (pc' := 83) (a := .inr (.inr (.inl 40))) tb_X6_normalForm r_X6_normalForm_82 rfl rfl rfl ?_
          refine b_il (pc' := 85) (a := .inl v17) tb_X6_normalForm r_X6_normalForm_83 rfl rfl rfl ?_
          obtain ⟨v24, M23, ov24, h⟩ := cI_in h
          refine b_vI (pc' := 88) tb_X6_normalForm r_X6_normalForm_85 tb_X6_begin mo_X6_begin (by decide) rfl rfl ov24 (fun r hr => snd_X6_begin hr) (by decide) rfl rfl rfl ?_
          refine b_st (pc' := 90) [(4, .inl v24), (7, .inl v17), (6, .inl v10), (0, .inr (.inr (.inl 40))), (2, .inl a2), (3, .inl v1), (5, .inl x5)] tb_X6_normalForm r_X6_normalForm_88 rfl rfl rfl rfl ?_
          refine b_goto (pc' := 103) tb_X6_normalForm r_X6_normalForm_90 rfl ?_
          refine b_sub9 [(0, .inr (.inr (.inl 40))), (2, .inl a2), (3, .inl v1), (4, .inl v24), (5, .inl x5)] ⟨rfl, rfl, rfl, rfl, rfl, trivial⟩ ?_
          exact hj103 _ _ h
  refine b_sub9 [(0, .inr (.inr (.inl 40))), (2, .inl a2), (3, .inl v1), (4, .inl v3), (5, .inl 0)] ⟨rfl, rfl, rfl, rfl, rfl, trivial⟩ ?_
  exact hj15 _ _ _ h
noncomputable def m_X10_reduce (M0 : Nat) : RN :=
  rK M0 0 (fun v1 => bK (zNe v1) (cV (m_X8_startAnew M0) (fun M16 => pK M16 2090 0 (fun M17 => cI (m_X10_topAt M17) (fun v19 M18 => cI (m_X6_normalForm v19 0 M18) (fun v21 M20 => bK (zGe v21) (cI (m_X10_topAt M20) (fun v27 M26 => cV (m_X8_store v21 v27 M26) (fun M28 => rK M28 2090 (fun v29 => some (Nat.add v29 2, M28))))) none))))) none)
set_option maxRecDepth 100000 in
theorem snd_X10_reduce {l : Launch} {g : GV} {D : va_G} {sl q : Nat} {M0 : Nat} {r : Nat × Nat} (h : m_X10_reduce M0 = some r) : SN l g D sl 190 0 q q 82 0 [(0, .inr (.inr (.inl 0)))] [] M0 (PR r) := by
  unfold m_X10_reduce at h
  refine b_aln (pc' := 1) (a := .inr (.inr (.inl 0))) tb_X10_reduce r_X10_reduce_0 rfl rfl rfl ?_
  obtain ⟨v1, cv1, h⟩ := rK_in h
  refine b_gi (pc' := 4) tb_X10_reduce r_X10_reduce_1 tF_0_10_8 cv1 rfl ?_
  obtain ⟨c1, h⟩ := bK_t h
  refine b_ifT (t := 17) tb_X10_reduce r_X10_reduce_4 rfl ((zNe_c _).symm.trans c1) ?_
  refine b_aln (pc' := 18) (a := .inr (.inr (.inl 0))) tb_X10_reduce r_X10_reduce_17 rfl rfl rfl ?_
  refine b_gr (pc' := 21) tb_X10_reduce r_X10_reduce_18 tF_0_10_1 rfl ?_
  obtain ⟨M16, oM16, h⟩ := cV_in h
  refine b_vV (pc' := 24) tb_X10_reduce r_X10_reduce_21 tb_X8_startAnew mo_X8_startAnew (by decide) rfl rfl oM16 (fun r hr => snd_X8_startAnew hr) (by decide) rfl rfl rfl ?_
  refine b_aln (pc' := 25) (a := .inr (.inr (.inl 0))) tb_X10_reduce r_X10_reduce_24 rfl rfl rfl ?_
  refine b_gr (pc' := 28) tb_X10_reduce r_X10_reduce_25 tF_0_10_4 rfl ?_
  refine b_ic (pc' := 29) (0) tb_X10_reduce r_X10_reduce_28 rfl rfl ?_
  obtain ⟨M17, cM17, h⟩ := pK_in h
  refine b_pi (pc' := 32) tb_X10_reduce r_X10_reduce_29 rfl tF_40_6_3 cM17 rfl ?_
  refine b_aln (pc' := 33) (a := .inr (.inr (.inl 0))) tb_X10_reduce r_X10_reduce_32 rfl rfl rfl ?_
  refine b_gr (pc' := 36) tb_X10_reduce r_X10_reduce_33 tF_0_10_4 rfl ?_
  refine b_aln (pc' := 37) (a := .inr (.inr (.inl 0))) tb_X10_reduce r_X10_reduce_36 rfl rfl rfl ?_
  obtain ⟨v19, M18, ov19, h⟩ := cI_in h
  refine b_vI (pc' := 40) tb_X10_reduce r_X10_reduce_37 tb_X10_topAt mo_X10_topAt (by decide) rfl rfl ov19 (fun r hr => snd_X10_topAt hr) (by decide) rfl rfl rfl ?_
  refine b_ic (pc' := 41) (0) tb_X10_reduce r_X10_reduce_40 rfl rfl ?_
  obtain ⟨v21, M20, ov21, h⟩ := cI_in h
  refine b_vI (pc' := 44) tb_X10_reduce r_X10_reduce_41 tb_X6_normalForm mo_X6_normalForm (by decide) rfl rfl ov21 (fun r hr => snd_X6_normalForm hr) (by decide) rfl rfl rfl ?_
  refine b_stn (pc' := 45) [(1, .inl v21), (0, .inr (.inr (.inl 0)))] tb_X10_reduce r_X10_reduce_44 rfl rfl rfl rfl ?_
  refine b_iln (pc' := 46) (a := .inl v21) tb_X10_reduce r_X10_reduce_45 rfl rfl rfl ?_
  obtain ⟨c1, h⟩ := bK_t h
  refine b_ifT (t := 52) tb_X10_reduce r_X10_reduce_46 rfl ((zGe_c _).symm.trans c1) ?_
  refine b_aln (pc' := 53) (a := .inr (.inr (.inl 0))) tb_X10_reduce r_X10_reduce_52 rfl rfl rfl ?_
  refine b_gr (pc' := 56) tb_X10_reduce r_X10_reduce_53 tF_0_10_1 rfl ?_
  refine b_iln (pc' := 57) (a := .inl v21) tb_X10_reduce r_X10_reduce_56 rfl rfl rfl ?_
  refine b_aln (pc' := 58) (a := .inr (.inr (.inl 0))) tb_X10_reduce r_X10_reduce_57 rfl rfl rfl ?_
  obtain ⟨v27, M26, ov27, h⟩ := cI_in h
  refine b_vI (pc' := 61) tb_X10_reduce r_X10_reduce_58 tb_X10_topAt mo_X10_topAt (by decide) rfl rfl ov27 (fun r hr => snd_X10_topAt hr) (by decide) rfl rfl rfl ?_
  obtain ⟨M28, oM28, h⟩ := cV_in h
  refine b_vV (pc' := 64) tb_X10_reduce r_X10_reduce_61 tb_X8_store mo_X8_store (by decide) rfl rfl oM28 (fun r hr => snd_X8_store hr) (by decide) rfl rfl rfl ?_
  refine b_aln (pc' := 65) (a := .inr (.inr (.inl 0))) tb_X10_reduce r_X10_reduce_64 rfl rfl rfl ?_
  refine b_gr (pc' := 68) tb_X10_reduce r_X10_reduce_65 tF_0_10_4 rfl ?_
  obtain ⟨v29, cv29, h⟩ := rK_in h
  refine b_gi (pc' := 71) tb_X10_reduce r_X10_reduce_68 tF_40_6_3 cv29 rfl ?_
  exact b_ri tb_X10_reduce r_X10_reduce_71 rfl (sj h).symm
noncomputable def m_X10_matching (M0 : Nat) : RN :=
  rK M0 0 (fun v1 => bK (zNe v1) (lp (fun _ _ _ => none) (fun (j21 : (Nat → Nat →  Nat → RN)) => fun (x17 : Nat) (x18 : Nat) (M19 : Nat) => rK M19 1250 (fun v20 => bK (nGe x18 v20) (some (Nat.add x17 2, M19)) (cV (m_X8_startAnew M19) (fun M21 => cI (m_X2_partAt x18 0 M21) (fun v23 M22 => cI (m_X10_topAt M22) (fun v25 M24 => cI (m_X3_list v23 v25 M24) (fun v27 M26 => bK (zLe v27) (fK (oOr x17 0) (fun v30 => fK (oAdd x18 1) (fun v31 => j21 v30 v31 M26))) none))))))) (fun (j21 : (Nat → Nat →  Nat → RN)) => j21 0 0 M0)) none)
set_option maxRecDepth 100000 in
theorem snd_X10_matching {l : Launch} {g : GV} {D : va_G} {sl q : Nat} {M0 : Nat} {r : Nat × Nat} (h : m_X10_matching M0 = some r) : SN l g D sl 187 0 q q 83 0 [(0, .inr (.inr (.inl 0)))] [] M0 (PR r) := by
  unfold m_X10_matching at h
  refine b_aln (pc' := 1) (a := .inr (.inr (.inl 0))) tb_X10_matching r_X10_matching_0 rfl rfl rfl ?_
  obtain ⟨v1, cv1, h⟩ := rK_in h
  refine b_gi (pc' := 4) tb_X10_matching r_X10_matching_1 tF_0_10_8 cv1 rfl ?_
  obtain ⟨c1, h⟩ := bK_t h
  refine b_ifT (t := 17) tb_X10_matching r_X10_matching_4 rfl ((zNe_c _).symm.trans c1) ?_
  refine b_ic (pc' := 18) (0) tb_X10_matching r_X10_matching_17 rfl rfl ?_
  refine b_stn (pc' := 19) [(1, .inl 0), (0, .inr (.inr (.inl 0)))] tb_X10_matching r_X10_matching_18 rfl rfl rfl rfl ?_
  refine b_ic (pc' := 20) (0) tb_X10_matching r_X10_matching_19 rfl rfl ?_
  refine b_stn (pc' := 21) [(2, .inl 0), (1, .inl 0), (0, .inr (.inr (.inl 0)))] tb_X10_matching r_X10_matching_20 rfl rfl rfl rfl ?_
  refine lp_in (R := fun (j21 : (Nat → Nat → Nat → RN)) => ∀ (x17 x18 M19 : Nat), j21 x17 x18 M19 = some r → SN l g D sl 187 0 q q 83 21 [(0, .inr (.inr (.inl 0))), (1, .inl x17), (2, .inl x18)] [] M19 (PR r)) h (fun _ _ _ h => by cases h) (fun j21 hj21 => ?_) (fun j21 hj21 h => ?_)
  · intro x17 x18 M19 h
    refine b_iln (pc' := 22) (a := .inl x18) tb_X10_matching r_X10_matching_21 rfl rfl rfl ?_
    refine b_aln (pc' := 23) (a := .inr (.inr (.inl 0))) tb_X10_matching r_X10_matching_22 rfl rfl rfl ?_
    refine b_gr (pc' := 26) tb_X10_matching r_X10_matching_23 tF_0_10_2 rfl ?_
    obtain ⟨v20, cv20, h⟩ := rK_in h
    refine b_gi (pc' := 29) tb_X10_matching r_X10_matching_26 tF_17_2_2 cv20 rfl ?_
    rcases bK_in h with ⟨c1, h⟩ | ⟨c1, h⟩
    · refine b_icT (t := 78) tb_X10_matching r_X10_matching_29 rfl ((nGe_c _ _).symm.trans c1) ?_
      refine b_iln (pc' := 79) (a := .inl x17) tb_X10_matching r_X10_matching_78 rfl rfl rfl ?_
      exact b_ri tb_X10_matching r_X10_matching_79 rfl (sj h).symm
    · refine b_icF (t := 78) (pc' := 32) tb_X10_matching r_X10_matching_29 rfl ((nGe_c _ _).symm.trans c1) rfl ?_
      refine b_aln (pc' := 33) (a := .inr (.inr (.inl 0))) tb_X10_matching r_X10_matching_32 rfl rfl rfl ?_
      refine b_gr (pc' := 36) tb_X10_matching r_X10_matching_33 tF_0_10_1 rfl ?_
      obtain ⟨M21, oM21, h⟩ := cV_in h
      refine b_vV (pc' := 39) tb_X10_matching r_X10_matching_36 tb_X8_startAnew mo_X8_startAnew (by decide) rfl rfl oM21 (fun r hr => snd_X8_startAnew hr) (by decide) rfl rfl rfl ?_
      refine b_iln (pc' := 40) (a := .inl x17) tb_X10_matching r_X10_matching_39 rfl rfl rfl ?_
      refine b_aln (pc' := 41) (a := .inr (.inr (.inl 0))) tb_X10_matching r_X10_matching_40 rfl rfl rfl ?_
      refine b_gr (pc' := 44) tb_X10_matching r_X10_matching_41 tF_0_10_3 rfl ?_
      refine b_aln (pc' := 45) (a := .inr (.inr (.inl 0))) tb_X10_matching r_X10_matching_44 rfl rfl rfl ?_
      refine b_gr (pc' := 48) tb_X10_matching r_X10_matching_45 tF_0_10_2 rfl ?_
      refine b_iln (pc' := 49) (a := .inl x18) tb_X10_matching r_X10_matching_48 rfl rfl rfl ?_
      refine b_ic (pc' := 50) (0) tb_X10_matching r_X10_matching_49 rfl rfl ?_
      obtain ⟨v23, M22, ov23, h⟩ := cI_in h
      refine b_vI (pc' := 53) tb_X10_matching r_X10_matching_50 tb_X2_partAt mo_X2_partAt (by decide) rfl rfl ov23 (fun r hr => snd_X2_partAt hr) (by decide) rfl rfl rfl ?_
      refine b_aln (pc' := 54) (a := .inr (.inr (.inl 0))) tb_X10_matching r_X10_matching_53 rfl rfl rfl ?_
      obtain ⟨v25, M24, ov25, h⟩ := cI_in h
      refine b_vI (pc' := 57) tb_X10_matching r_X10_matching_54 tb_X10_topAt mo_X10_topAt (by decide) rfl rfl ov25 (fun r hr => snd_X10_topAt hr) (by decide) rfl rfl rfl ?_
      obtain ⟨v27, M26, ov27, h⟩ := cI_in h
      refine b_vI (pc' := 60) tb_X10_matching r_X10_matching_57 tb_X3_list mo_X3_list (by decide) rfl rfl ov27 (fun r hr => snd_X3_list hr) (by decide) rfl rfl rfl ?_
      obtain ⟨c1, h⟩ := bK_t h
      refine b_ifT (t := 69) tb_X10_matching r_X10_matching_60 rfl ((zLe_c _).symm.trans c1) ?_
      refine b_ic (pc' := 70) (0) tb_X10_matching r_X10_matching_69 rfl rfl ?_
      refine b_or (pc' := 71) tb_X10_matching r_X10_matching_70 rfl ?_
      obtain ⟨v30, ev30, h⟩ := fK_v h
      rw [ev30]
      refine b_stn (pc' := 72) [(1, .inl v30), (0, .inr (.inr (.inl 0))), (2, .inl x18)] tb_X10_matching r_X10_matching_71 rfl rfl rfl rfl ?_
      refine b_inc (pc' := 75) (v := x18) (n := 1) [(2, .inl (oAdd x18 1)), (1, .inl v30), (0, .inr (.inr (.inl 0)))] tb_X10_matching r_X10_matching_72 rfl rfl rfl rfl rfl ?_
      obtain ⟨v31, ev31, h⟩ := fK_v h
      rw [ev31]
      refine b_goto (pc' := 21) tb_X10_matching r_X10_matching_75 rfl ?_
      refine b_sub9 [(0, .inr (.inr (.inl 0))), (1, .inl v30), (2, .inl v31)] ⟨rfl, rfl, rfl, trivial⟩ ?_
      exact hj21 _ _ _ h
  refine b_sub9 [(0, .inr (.inr (.inl 0))), (1, .inl 0), (2, .inl 0)] ⟨rfl, rfl, rfl, trivial⟩ ?_
  exact hj21 _ _ _ h
