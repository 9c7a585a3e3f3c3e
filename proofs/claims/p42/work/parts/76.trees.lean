/-! more of them -/
noncomputable def m_X10_match (a1 a2 : Nat) (M0 : Nat) : RN :=
  cI (m_X10_hasPatternAndSubject M0) (fun v2 M1 => bK (zNe v2) (cV (m_X8_startAnew M1) (fun M47 => rK M47 0 (fun v48 => fK (oSub v48 2) (fun v49 => cI (m_X10_stackAt v49 M47) (fun v51 M50 => cI (m_X10_topAt M50) (fun v53 M52 => cI (m_X3_list v51 v53 M52) (fun v55 M54 => bK (zLt a1) none (bK (nGe a1 v55) none (cI (m_X10_isVariableNumber a2 M54) (fun v57 M56 => bK (zEq v57) none (cI (m_X8_variablesAt v51 M56) (fun v59 M58 => hK v59 a2 (fun v60 => bK (zNe (oAnd v60 1)) (rK M58 0 (fun v76 => bK (nLt v76 10) (rK M58 1256 (fun v84 => rK M58 1257 (fun v85 => fK (oAdd v84 a1) (fun v86 => cV (m_X3_giveMatch v51 v86 v85 M58) (fun M87 => lK M87 1230 20 a2 (fun v88 => cI (m_X10_push v88 M87) (fun v90 M89 => some (Nat.add v90 2, M89)))))))) none)) none))))))))))))) none)
set_option maxRecDepth 100000 in
theorem snd_X10_match {l : Launch} {g : GV} {D : va_G} {sl q : Nat} {a1 a2 M0 : Nat} {r : Nat × Nat} (h : m_X10_match a1 a2 M0 = some r) : SN l g D sl 187 0 q q 81 0 [(0, .inr (.inr (.inl 0))), (1, .inl a1), (2, .inl a2)] [] M0 (PR r) := by
  unfold m_X10_match at h
  refine b_aln (pc' := 1) (a := .inr (.inr (.inl 0))) tb_X10_match r_X10_match_0 rfl rfl rfl ?_
  obtain ⟨v2, M1, ov2, h⟩ := cI_in h
  refine b_vI (pc' := 4) tb_X10_match r_X10_match_1 tb_X10_hasPatternAndSubject mo_X10_hasPatternAndSubject (by decide) rfl rfl ov2 (fun r hr => snd_X10_hasPatternAndSubject hr) (by decide) rfl rfl rfl ?_
  obtain ⟨c1, h⟩ := bK_t h
  refine b_ifT (t := 17) tb_X10_match r_X10_match_4 rfl ((zNe_c _).symm.trans c1) ?_
  refine b_aln (pc' := 18) (a := .inr (.inr (.inl 0))) tb_X10_match r_X10_match_17 rfl rfl rfl ?_
  refine b_gr (pc' := 21) tb_X10_match r_X10_match_18 tF_0_10_1 rfl ?_
  obtain ⟨M47, oM47, h⟩ := cV_in h
  refine b_vV (pc' := 24) tb_X10_match r_X10_match_21 tb_X8_startAnew mo_X8_startAnew (by decide) rfl rfl oM47 (fun r hr => snd_X8_startAnew hr) (by decide) rfl rfl rfl ?_
  refine b_aln (pc' := 25) (a := .inr (.inr (.inl 0))) tb_X10_match r_X10_match_24 rfl rfl rfl ?_
  obtain ⟨v48, cv48, h⟩ := rK_in h
  refine b_gi (pc' := 28) tb_X10_match r_X10_match_25 tF_0_10_8 cv48 rfl ?_
  refine b_ic (pc' := 29) (2) tb_X10_match r_X10_match_28 rfl rfl ?_
  refine b_sub (pc' := 30) tb_X10_match r_X10_match_29 rfl ?_
  obtain ⟨v49, ev49, h⟩ := fK_v h
  rw [ev49]
  obtain ⟨v51, M50, ov51, h⟩ := cI_in h
  refine b_sI (pc' := 33) tb_X10_match r_X10_match_30 tb_X10_stackAt mo_X10_stackAt (by decide) rfl rfl ov51 (fun r hr => snd_X10_stackAt hr) (by decide) rfl rfl rfl ?_
  refine b_stn (pc' := 34) [(3, .inl v51), (0, .inr (.inr (.inl 0))), (1, .inl a1), (2, .inl a2)] tb_X10_match r_X10_match_33 rfl rfl rfl rfl ?_
  refine b_aln (pc' := 35) (a := .inr (.inr (.inl 0))) tb_X10_match r_X10_match_34 rfl rfl rfl ?_
  refine b_gr (pc' := 38) tb_X10_match r_X10_match_35 tF_0_10_3 rfl ?_
  refine b_iln (pc' := 39) (a := .inl v51) tb_X10_match r_X10_match_38 rfl rfl rfl ?_
  refine b_aln (pc' := 40) (a := .inr (.inr (.inl 0))) tb_X10_match r_X10_match_39 rfl rfl rfl ?_
  obtain ⟨v53, M52, ov53, h⟩ := cI_in h
  refine b_vI (pc' := 43) tb_X10_match r_X10_match_40 tb_X10_topAt mo_X10_topAt (by decide) rfl rfl ov53 (fun r hr => snd_X10_topAt hr) (by decide) rfl rfl rfl ?_
  obtain ⟨v55, M54, ov55, h⟩ := cI_in h
  refine b_vI (pc' := 46) tb_X10_match r_X10_match_43 tb_X3_list mo_X3_list (by decide) rfl rfl ov55 (fun r hr => snd_X3_list hr) (by decide) rfl rfl rfl ?_
  refine b_st (pc' := 48) [(4, .inl v55), (3, .inl v51), (0, .inr (.inr (.inl 0))), (1, .inl a1), (2, .inl a2)] tb_X10_match r_X10_match_46 rfl rfl rfl rfl ?_
  refine b_iln (pc' := 49) (a := .inl a1) tb_X10_match r_X10_match_48 rfl rfl rfl ?_
  obtain ⟨c1, h⟩ := bK_f h
  refine b_ifF (t := 80) (pc' := 52) tb_X10_match r_X10_match_49 rfl ((zLt_c _).symm.trans c1) rfl ?_
  refine b_iln (pc' := 53) (a := .inl a1) tb_X10_match r_X10_match_52 rfl rfl rfl ?_
  refine b_il (pc' := 55) (a := .inl v55) tb_X10_match r_X10_match_53 rfl rfl rfl ?_
  obtain ⟨c1, h⟩ := bK_f h
  refine b_icF (t := 80) (pc' := 58) tb_X10_match r_X10_match_55 rfl ((nGe_c _ _).symm.trans c1) rfl ?_
  refine b_iln (pc' := 59) (a := .inl a2) tb_X10_match r_X10_match_58 rfl rfl rfl ?_
  obtain ⟨v57, M56, ov57, h⟩ := cI_in h
  refine b_sI (pc' := 62) tb_X10_match r_X10_match_59 tb_X10_isVariableNumber mo_X10_isVariableNumber (by decide) rfl rfl ov57 (fun r hr => snd_X10_isVariableNumber hr) (by decide) rfl rfl rfl ?_
  obtain ⟨c1, h⟩ := bK_f h
  refine b_ifF (t := 80) (pc' := 65) tb_X10_match r_X10_match_62 rfl ((zEq_c _).symm.trans c1) rfl ?_
  refine b_aln (pc' := 66) (a := .inr (.inr (.inl 0))) tb_X10_match r_X10_match_65 rfl rfl rfl ?_
  refine b_gr (pc' := 69) tb_X10_match r_X10_match_66 tF_0_10_1 rfl ?_
  refine b_iln (pc' := 70) (a := .inl v51) tb_X10_match r_X10_match_69 rfl rfl rfl ?_
  obtain ⟨v59, M58, ov59, h⟩ := cI_in h
  refine b_vI (pc' := 73) tb_X10_match r_X10_match_70 tb_X8_variablesAt mo_X8_variablesAt (by decide) rfl rfl ov59 (fun r hr => snd_X8_variablesAt hr) (by decide) rfl rfl rfl ?_
  refine b_iln (pc' := 74) (a := .inl a2) tb_X10_match r_X10_match_73 rfl rfl rfl ?_
  obtain ⟨v60, c1, ev60, h⟩ := hK_in h
  refine b_shr (pc' := 75) tb_X10_match r_X10_match_74 c1 ev60 rfl ?_
  refine b_ic (pc' := 76) (1) tb_X10_match r_X10_match_75 rfl rfl ?_
  refine b_and (pc' := 77) tb_X10_match r_X10_match_76 rfl ?_
  obtain ⟨c1, h⟩ := bK_t h
  refine b_ifT (t := 90) tb_X10_match r_X10_match_77 rfl ((zNe_c _).symm.trans c1) ?_
  refine b_aln (pc' := 91) (a := .inr (.inr (.inl 0))) tb_X10_match r_X10_match_90 rfl rfl rfl ?_
  obtain ⟨v76, cv76, h⟩ := rK_in h
  refine b_gi (pc' := 94) tb_X10_match r_X10_match_91 tF_0_10_8 cv76 rfl ?_
  refine b_bi (pc' := 96) (10) tb_X10_match r_X10_match_94 rfl rfl rfl ?_
  obtain ⟨c1, h⟩ := bK_t h
  refine b_icT (t := 109) tb_X10_match r_X10_match_96 rfl ((nLt_c _ _).symm.trans c1) ?_
  refine b_aln (pc' := 110) (a := .inr (.inr (.inl 0))) tb_X10_match r_X10_match_109 rfl rfl rfl ?_
  refine b_gr (pc' := 113) tb_X10_match r_X10_match_110 tF_0_10_3 rfl ?_
  refine b_iln (pc' := 114) (a := .inl v51) tb_X10_match r_X10_match_113 rfl rfl rfl ?_
  refine b_aln (pc' := 115) (a := .inr (.inr (.inl 0))) tb_X10_match r_X10_match_114 rfl rfl rfl ?_
  refine b_gr (pc' := 118) tb_X10_match r_X10_match_115 tF_0_10_3 rfl ?_
  obtain ⟨v84, cv84, h⟩ := rK_in h
  refine b_gi (pc' := 121) tb_X10_match r_X10_match_118 tF_19_3_13 cv84 rfl ?_
  refine b_iln (pc' := 122) (a := .inl a1) tb_X10_match r_X10_match_121 rfl rfl rfl ?_
  refine b_add (pc' := 123) tb_X10_match r_X10_match_122 rfl ?_
  refine b_aln (pc' := 124) (a := .inr (.inr (.inl 0))) tb_X10_match r_X10_match_123 rfl rfl rfl ?_
  refine b_gr (pc' := 127) tb_X10_match r_X10_match_124 tF_0_10_3 rfl ?_
  obtain ⟨v85, cv85, h⟩ := rK_in h
  refine b_gi (pc' := 130) tb_X10_match r_X10_match_127 tF_19_3_14 cv85 rfl ?_
  obtain ⟨v86, ev86, h⟩ := fK_v h
  rw [ev86]
  obtain ⟨M87, oM87, h⟩ := cV_in h
  refine b_vV (pc' := 133) tb_X10_match r_X10_match_130 tb_X3_giveMatch mo_X3_giveMatch (by decide) rfl rfl oM87 (fun r hr => snd_X3_giveMatch hr) (by decide) rfl rfl rfl ?_
  refine b_aln (pc' := 134) (a := .inr (.inr (.inl 0))) tb_X10_match r_X10_match_133 rfl rfl rfl ?_
  refine b_aln (pc' := 135) (a := .inr (.inr (.inl 0))) tb_X10_match r_X10_match_134 rfl rfl rfl ?_
  refine b_gr (pc' := 138) tb_X10_match r_X10_match_135 tF_0_10_1 rfl ?_
  refine b_gr (pc' := 141) tb_X10_match r_X10_match_138 tF_11_8_7 rfl ?_
  refine b_iln (pc' := 142) (a := .inl a2) tb_X10_match r_X10_match_141 rfl rfl rfl ?_
  obtain ⟨v88, dv88, cv88, h⟩ := lK_in h
  refine b_ia (pc' := 143) tb_X10_match r_X10_match_142 tA_16 dv88 cv88 rfl ?_
  obtain ⟨v90, M89, ov90, h⟩ := cI_in h
  refine b_vI (pc' := 146) tb_X10_match r_X10_match_143 tb_X10_push mo_X10_push (by decide) rfl rfl ov90 (fun r hr => snd_X10_push hr) (by decide) rfl rfl rfl ?_
  exact b_ri tb_X10_match r_X10_match_146 rfl (sj h).symm
noncomputable def m_X6_look (a1 a2 : Nat) (M0 : Nat) : RN :=
  lK2 M0 281 780 7500 7656 a2 (fun v1 => sK M0 2092 11 a1 a2 (fun M2 => sK M2 2114 11 a1 (oAdd a2 1) (fun M3 => bK (nGe v1 32) (dvK Nat.mod v1 8 (fun v8 => sK M3 2125 11 a1 v8 (fun M9 => rK M9 277 (fun v10 => sK M9 2136 11 a1 v10 (fun M11 => some (1, M11)))))) none)))
set_option maxRecDepth 100000 in
theorem snd_X6_look {l : Launch} {g : GV} {D : va_G} {sl q : Nat} {a1 a2 M0 : Nat} {r : Nat × Nat} (h : m_X6_look a1 a2 M0 = some r) : SN l g D sl 1 0 q q 67 0 [(0, .inr (.inr (.inl 40))), (1, .inl a1), (2, .inl a2)] [] M0 (PR r) := by
  unfold m_X6_look at h
  refine b_aln (pc' := 1) (a := .inr (.inr (.inl 40))) tb_X6_look r_X6_look_0 rfl rfl rfl ?_
  refine b_gr (pc' := 4) tb_X6_look r_X6_look_1 tF_40_6_0 rfl ?_
  refine b_gr (pc' := 7) tb_X6_look r_X6_look_4 tF_11_8_1 rfl ?_
  refine b_iln (pc' := 8) (a := .inl a2) tb_X6_look r_X6_look_7 rfl rfl rfl ?_
  obtain ⟨v1, _, dv1, cv1, h⟩ := lK2_in h
  refine b_ia2 (pc' := 9) tb_X6_look r_X6_look_8 tA_12 dv1 cv1 rfl ?_
  refine b_stn (pc' := 10) [(3, .inl v1), (0, .inr (.inr (.inl 40))), (1, .inl a1), (2, .inl a2)] tb_X6_look r_X6_look_9 rfl rfl rfl rfl ?_
  refine b_aln (pc' := 11) (a := .inr (.inr (.inl 40))) tb_X6_look r_X6_look_10 rfl rfl rfl ?_
  refine b_gr (pc' := 14) tb_X6_look r_X6_look_11 tF_40_6_5 rfl ?_
  refine b_iln (pc' := 15) (a := .inl a1) tb_X6_look r_X6_look_14 rfl rfl rfl ?_
  refine b_iln (pc' := 16) (a := .inl a2) tb_X6_look r_X6_look_15 rfl rfl rfl ?_
  obtain ⟨M2, dM2, cM2, h⟩ := sK_in h
  refine b_is (pc' := 17) tb_X6_look r_X6_look_16 tA_41 dM2 cM2 rfl ?_
  refine b_aln (pc' := 18) (a := .inr (.inr (.inl 40))) tb_X6_look r_X6_look_17 rfl rfl rfl ?_
  refine b_gr (pc' := 21) tb_X6_look r_X6_look_18 tF_40_6_7 rfl ?_
  refine b_iln (pc' := 22) (a := .inl a1) tb_X6_look r_X6_look_21 rfl rfl rfl ?_
  refine b_iln (pc' := 23) (a := .inl a2) tb_X6_look r_X6_look_22 rfl rfl rfl ?_
  refine b_ic (pc' := 24) (1) tb_X6_look r_X6_look_23 rfl rfl ?_
  refine b_add (pc' := 25) tb_X6_look r_X6_look_24 rfl ?_
  obtain ⟨M3, dM3, cM3, h⟩ := sK_in h
  refine b_is (pc' := 26) tb_X6_look r_X6_look_25 tA_43 dM3 cM3 rfl ?_
  refine b_aln (pc' := 27) (a := .inr (.inr (.inl 40))) tb_X6_look r_X6_look_26 rfl rfl rfl ?_
  refine b_gr (pc' := 30) tb_X6_look r_X6_look_27 tF_40_6_8 rfl ?_
  refine b_iln (pc' := 31) (a := .inl a1) tb_X6_look r_X6_look_30 rfl rfl rfl ?_
  refine b_iln (pc' := 32) (a := .inl v1) tb_X6_look r_X6_look_31 rfl rfl rfl ?_
  refine b_bi (pc' := 34) (32) tb_X6_look r_X6_look_32 rfl rfl rfl ?_
  obtain ⟨c1, h⟩ := bK_t h
  refine b_icT (t := 41) tb_X6_look r_X6_look_34 rfl ((nGe_c _ _).symm.trans c1) ?_
  refine b_iln (pc' := 42) (a := .inl v1) tb_X6_look r_X6_look_41 rfl rfl rfl ?_
  refine b_bi (pc' := 44) (8) tb_X6_look r_X6_look_42 rfl rfl rfl ?_
  obtain ⟨v8, c1, c2, c3, ev8, h⟩ := dvK_in h
  refine b_rem (pc' := 45) tb_X6_look r_X6_look_44 c1 c2 c3 ev8 rfl ?_
  obtain ⟨M9, dM9, cM9, h⟩ := sK_in h
  refine b_is (pc' := 46) tb_X6_look r_X6_look_45 tA_44 dM9 cM9 rfl ?_
  refine b_aln (pc' := 47) (a := .inr (.inr (.inl 40))) tb_X6_look r_X6_look_46 rfl rfl rfl ?_
  refine b_gr (pc' := 50) tb_X6_look r_X6_look_47 tF_40_6_9 rfl ?_
  refine b_iln (pc' := 51) (a := .inl a1) tb_X6_look r_X6_look_50 rfl rfl rfl ?_
  refine b_aln (pc' := 52) (a := .inr (.inr (.inl 40))) tb_X6_look r_X6_look_51 rfl rfl rfl ?_
  refine b_gr (pc' := 55) tb_X6_look r_X6_look_52 tF_40_6_0 rfl ?_
  obtain ⟨v10, cv10, h⟩ := rK_in h
  refine b_gi (pc' := 58) tb_X6_look r_X6_look_55 tF_11_8_4 cv10 rfl ?_
  obtain ⟨M11, dM11, cM11, h⟩ := sK_in h
  refine b_is (pc' := 59) tb_X6_look r_X6_look_58 tA_45 dM11 cM11 rfl ?_
  exact b_vo tb_X6_look r_X6_look_59 (sj h).symm
noncomputable def m_X6_begin (a1 : Nat) (M0 : Nat) : RN :=
  rK M0 2091 (fun v1 => bK (nLt v1 1240) (rK M0 2091 (fun v10 => rK M0 276 (fun v11 => sK M0 2103 11 v10 v11 (fun M12 => rK M12 2091 (fun v13 => pK M12 2091 (oAdd v13 1) (fun M14 => rK M14 2091 (fun v15 => fK (oSub v15 1) (fun v16 => cV (m_X6_look v16 a1 M14) (fun M17 => some (Nat.add 4294967295 2, M17)))))))))) none)
set_option maxRecDepth 100000 in
theorem snd_X6_begin {l : Launch} {g : GV} {D : va_G} {sl q : Nat} {a1 M0 : Nat} {r : Nat × Nat} (h : m_X6_begin a1 M0 = some r) : SN l g D sl 2 0 q q 66 0 [(0, .inr (.inr (.inl 40))), (1, .inl a1)] [] M0 (PR r) := by
  unfold m_X6_begin at h
  refine b_aln (pc' := 1) (a := .inr (.inr (.inl 40))) tb_X6_begin r_X6_begin_0 rfl rfl rfl ?_
  obtain ⟨v1, cv1, h⟩ := rK_in h
  refine b_gi (pc' := 4) tb_X6_begin r_X6_begin_1 tF_40_6_4 cv1 rfl ?_
  refine b_si (pc' := 7) (1240) tb_X6_begin r_X6_begin_4 rfl rfl rfl ?_
  obtain ⟨c1, h⟩ := bK_t h
  refine b_icT (t := 13) tb_X6_begin r_X6_begin_7 rfl ((nLt_c _ _).symm.trans c1) ?_
  refine b_aln (pc' := 14) (a := .inr (.inr (.inl 40))) tb_X6_begin r_X6_begin_13 rfl rfl rfl ?_
  refine b_gr (pc' := 17) tb_X6_begin r_X6_begin_14 tF_40_6_6 rfl ?_
  refine b_aln (pc' := 18) (a := .inr (.inr (.inl 40))) tb_X6_begin r_X6_begin_17 rfl rfl rfl ?_
  obtain ⟨v10, cv10, h⟩ := rK_in h
  refine b_gi (pc' := 21) tb_X6_begin r_X6_begin_18 tF_40_6_4 cv10 rfl ?_
  refine b_aln (pc' := 22) (a := .inr (.inr (.inl 40))) tb_X6_begin r_X6_begin_21 rfl rfl rfl ?_
  refine b_gr (pc' := 25) tb_X6_begin r_X6_begin_22 tF_40_6_0 rfl ?_
  obtain ⟨v11, cv11, h⟩ := rK_in h
  refine b_gi (pc' := 28) tb_X6_begin r_X6_begin_25 tF_11_8_2 cv11 rfl ?_
  obtain ⟨M12, dM12, cM12, h⟩ := sK_in h
  refine b_is (pc' := 29) tb_X6_begin r_X6_begin_28 tA_42 dM12 cM12 rfl ?_
  refine b_aln (pc' := 30) (a := .inr (.inr (.inl 40))) tb_X6_begin r_X6_begin_29 rfl rfl rfl ?_
  refine b_dup (pc' := 31) tb_X6_begin r_X6_begin_30 rfl rfl ?_
  obtain ⟨v13, cv13, h⟩ := rK_in h
  refine b_gi (pc' := 34) tb_X6_begin r_X6_begin_31 tF_40_6_4 cv13 rfl ?_
  refine b_ic (pc' := 35) (1) tb_X6_begin r_X6_begin_34 rfl rfl ?_
  refine b_add (pc' := 36) tb_X6_begin r_X6_begin_35 rfl ?_
  obtain ⟨M14, cM14, h⟩ := pK_in h
  refine b_pi (pc' := 39) tb_X6_begin r_X6_begin_36 rfl tF_40_6_4 cM14 rfl ?_
  refine b_aln (pc' := 40) (a := .inr (.inr (.inl 40))) tb_X6_begin r_X6_begin_39 rfl rfl rfl ?_
  refine b_aln (pc' := 41) (a := .inr (.inr (.inl 40))) tb_X6_begin r_X6_begin_40 rfl rfl rfl ?_
  obtain ⟨v15, cv15, h⟩ := rK_in h
  refine b_gi (pc' := 44) tb_X6_begin r_X6_begin_41 tF_40_6_4 cv15 rfl ?_
  refine b_ic (pc' := 45) (1) tb_X6_begin r_X6_begin_44 rfl rfl ?_
  refine b_sub (pc' := 46) tb_X6_begin r_X6_begin_45 rfl ?_
  refine b_iln (pc' := 47) (a := .inl a1) tb_X6_begin r_X6_begin_46 rfl rfl rfl ?_
  obtain ⟨v16, ev16, h⟩ := fK_v h
  rw [ev16]
  obtain ⟨M17, oM17, h⟩ := cV_in h
  refine b_vV (pc' := 50) tb_X6_begin r_X6_begin_47 tb_X6_look mo_X6_look (by decide) rfl rfl oM17 (fun r hr => snd_X6_look hr) (by decide) rfl rfl rfl ?_
  refine b_ic (pc' := 51) (4294967295) tb_X6_begin r_X6_begin_50 rfl rfl ?_
  exact b_ri tb_X6_begin r_X6_begin_51 rfl (sj h).symm
noncomputable def m_X2_partAt (a1 a2 : Nat) (M0 : Nat) : RN :=
  some (Nat.add (oAdd 620 (oMul (oAdd (oMul a1 4) a2) 20)) 2, M0)
set_option maxRecDepth 100000 in
theorem snd_X2_partAt {l : Launch} {g : GV} {D : va_G} {sl q : Nat} {a1 a2 M0 : Nat} {r : Nat × Nat} (h : m_X2_partAt a1 a2 M0 = some r) : SN l g D sl 1 0 q q 29 0 [(0, .inr (.inr (.inl 17))), (1, .inl a1), (2, .inl a2)] [] M0 (PR r) := by
  unfold m_X2_partAt at h
  refine b_si (pc' := 3) (620) tb_X2_partAt r_X2_partAt_0 rfl rfl rfl ?_
  refine b_iln (pc' := 4) (a := .inl a1) tb_X2_partAt r_X2_partAt_3 rfl rfl rfl ?_
  refine b_ic (pc' := 5) (4) tb_X2_partAt r_X2_partAt_4 rfl rfl ?_
  refine b_mul (pc' := 6) tb_X2_partAt r_X2_partAt_5 rfl ?_
  refine b_iln (pc' := 7) (a := .inl a2) tb_X2_partAt r_X2_partAt_6 rfl rfl rfl ?_
  refine b_add (pc' := 8) tb_X2_partAt r_X2_partAt_7 rfl ?_
  refine b_bi (pc' := 10) (20) tb_X2_partAt r_X2_partAt_8 rfl rfl rfl ?_
  refine b_mul (pc' := 11) tb_X2_partAt r_X2_partAt_10 rfl ?_
  refine b_add (pc' := 12) tb_X2_partAt r_X2_partAt_11 rfl ?_
  exact b_ri tb_X2_partAt r_X2_partAt_12 rfl (sj h).symm
noncomputable def m_X2_argumentFits (a1 a2 : Nat) (M0 : Nat) : RN :=
  jn (fun (M1 : Nat) => rbK 1 M1) (fun (j22 : ( Nat → RN)) => bK (nLt a1 32) (j22 M0) (cI (m_X10_operatorIn a1 M0) (fun v3 M2 => lK M2 40 12 v3 (fun v4 => bK (nEq v4 4294967295) (jn (fun (s5 : Nat) (M6 : Nat) => rbK s5 M6) (fun (j46 : (Nat →  Nat → RN)) => jn (fun (M7 : Nat) => j46 0 M7) (fun (j45 : ( Nat → RN)) => bK (nLt a2 32) (j45 M2) (cI (m_X10_operatorIn a2 M2) (fun v9 M8 => cI (m_X10_operatorIn a1 M8) (fun v11 M10 => bK (nNe v9 v11) (j45 M10) (j46 1 M10))))))) (j22 M2)))))
set_option maxRecDepth 100000 in
theorem snd_X2_argumentFits {l : Launch} {g : GV} {D : va_G} {sl q : Nat} {a1 a2 M0 : Nat} {r : Nat × Nat} (h : m_X2_argumentFits a1 a2 M0 = some r) : SN l g D sl 2 0 q q 43 0 [(0, .inr (.inr (.inl 17))), (1, .inl a1), (2, .inl a2)] [] M0 (PR r) := by
  unfold m_X2_argumentFits at h
  refine b_iln (pc' := 1) (a := .inl a1) tb_X2_argumentFits r_X2_argumentFits_0 rfl rfl rfl ?_
  refine b_bi (pc' := 3) (32) tb_X2_argumentFits r_X2_argumentFits_1 rfl rfl rfl ?_
  refine jn_in (R := fun (j22 : ( Nat → RN)) => ∀ (M1 : Nat), j22 M1 = some r → SN l g D sl 2 0 q q 43 22 [] [] M1 (PR r)) h (fun M1 h => ?_) (fun j22 hj22 h => ?_)
  · skip
    refine b_ic (pc' := 23) (1) tb_X2_argumentFits r_X2_argumentFits_22 rfl rfl ?_
    obtain ⟨c1, h⟩ := rbK_in h
    exact b_rb tb_X2_argumentFits r_X2_argumentFits_23 rfl c1 h
  rcases bK_in h with ⟨c1, h⟩ | ⟨c1, h⟩
  · refine b_icT (t := 22) tb_X2_argumentFits r_X2_argumentFits_3 rfl ((nLt_c _ _).symm.trans c1) ?_
    refine b_sub9 [] trivial ?_
    exact hj22 _ h
  · refine b_icF (t := 22) (pc' := 6) tb_X2_argumentFits r_X2_argumentFits_3 rfl ((nLt_c _ _).symm.trans c1) rfl ?_
    refine b_aln (pc' := 7) (a := .inr (.inr (.inl 17))) tb_X2_argumentFits r_X2_argumentFits_6 rfl rfl rfl ?_
    refine b_gr (pc' := 10) tb_X2_argumentFits r_X2_argumentFits_7 tF_17_2_1 rfl ?_
    refine b_gr (pc' := 13) tb_X2_argumentFits r_X2_argumentFits_10 tF_1_7_6 rfl ?_
    refine b_iln (pc' := 14) (a := .inl a1) tb_X2_argumentFits r_X2_argumentFits_13 rfl rfl rfl ?_
    obtain ⟨v3, M2, ov3, h⟩ := cI_in h
    refine b_sI (pc' := 17) tb_X2_argumentFits r_X2_argumentFits_14 tb_X10_operatorIn mo_X10_operatorIn (by decide) rfl rfl ov3 (fun r hr => snd_X10_operatorIn hr) (by decide) rfl rfl rfl ?_
    obtain ⟨v4, dv4, cv4, h⟩ := lK_in h
    refine b_ia (pc' := 18) tb_X2_argumentFits r_X2_argumentFits_17 tA_6 dv4 cv4 rfl ?_
    refine b_ic (pc' := 19) (4294967295) tb_X2_argumentFits r_X2_argumentFits_18 rfl rfl ?_
    rcases bK_in h with ⟨c1, h⟩ | ⟨c1, h⟩
    · refine b_icT (t := 24) tb_X2_argumentFits r_X2_argumentFits_19 rfl ((nEq_c _ _).symm.trans c1) ?_
      refine b_iln (pc' := 25) (a := .inl a2) tb_X2_argumentFits r_X2_argumentFits_24 rfl rfl rfl ?_
      refine b_bi (pc' := 27) (32) tb_X2_argumentFits r_X2_argumentFits_25 rfl rfl rfl ?_
      refine jn_in (R := fun (j46 : (Nat → Nat → RN)) => ∀ (s5 M6 : Nat), j46 s5 M6 = some r → SN l g D sl 2 0 q q 43 46 [] [.inl s5] M6 (PR r)) h (fun s5 M6 h => ?_) (fun j46 hj46 h => ?_)
      · skip
        obtain ⟨c1, h⟩ := rbK_in h
        exact b_rb tb_X2_argumentFits r_X2_argumentFits_46 rfl c1 h
      refine jn_in (R := fun (j45 : ( Nat → RN)) => ∀ (M7 : Nat), j45 M7 = some r → SN l g D sl 2 0 q q 43 45 [] [] M7 (PR r)) h (fun M7 h => ?_) (fun j45 hj45 h => ?_)
      · skip
        refine b_ic (pc' := 46) (0) tb_X2_argumentFits r_X2_argumentFits_45 rfl rfl ?_
        exact hj46 _ _ h
      rcases bK_in h with ⟨c1, h⟩ | ⟨c1, h⟩
      · refine b_icT (t := 45) tb_X2_argumentFits r_X2_argumentFits_27 rfl ((nLt_c _ _).symm.trans c1) ?_
        refine b_sub9 [] trivial ?_
        exact hj45 _ h
      · refine b_icF (t := 45) (pc' := 30) tb_X2_argumentFits r_X2_argumentFits_27 rfl ((nLt_c _ _).symm.trans c1) rfl ?_
        refine b_iln (pc' := 31) (a := .inl a2) tb_X2_argumentFits r_X2_argumentFits_30 rfl rfl rfl ?_
        obtain ⟨v9, M8, ov9, h⟩ := cI_in h
        refine b_sI (pc' := 34) tb_X2_argumentFits r_X2_argumentFits_31 tb_X10_operatorIn mo_X10_operatorIn (by decide) rfl rfl ov9 (fun r hr => snd_X10_operatorIn hr) (by decide) rfl rfl rfl ?_
        refine b_iln (pc' := 35) (a := .inl a1) tb_X2_argumentFits r_X2_argumentFits_34 rfl rfl rfl ?_
        obtain ⟨v11, M10, ov11, h⟩ := cI_in h
        refine b_sI (pc' := 38) tb_X2_argumentFits r_X2_argumentFits_35 tb_X10_operatorIn mo_X10_operatorIn (by decide) rfl rfl ov11 (fun r hr => snd_X10_operatorIn hr) (by decide) rfl rfl rfl ?_
        rcases bK_in h with ⟨c1, h⟩ | ⟨c1, h⟩
        · refine b_icT (t := 45) tb_X2_argumentFits r_X2_argumentFits_38 rfl ((nNe_c _ _).symm.trans c1) ?_
          refine b_sub9 [] trivial ?_
          exact hj45 _ h
        · refine b_icF (t := 45) (pc' := 41) tb_X2_argumentFits r_X2_argumentFits_38 rfl ((nNe_c _ _).symm.trans c1) rfl ?_
          refine b_ic (pc' := 42) (1) tb_X2_argumentFits r_X2_argumentFits_41 rfl rfl ?_
          refine b_goto (pc' := 46) tb_X2_argumentFits r_X2_argumentFits_42 rfl ?_
          refine b_sub9 [] trivial ?_
          exact hj46 _ _ h
    · refine b_icF (t := 24) (pc' := 22) tb_X2_argumentFits r_X2_argumentFits_19 rfl ((nEq_c _ _).symm.trans c1) rfl ?_
      refine b_sub9 [] trivial ?_
      exact hj22 _ h
noncomputable def m_X2_canFit (a1 a2 : Nat) (M0 : Nat) : RN :=
  cI (m_X2_partAt a1 0 M0) (fun v2 M1 => lK2 M1 281 780 7500 7656 v2 (fun v3 => cI (m_X10_operatorIn v3 M1) (fun v5 M4 => lK M4 40 12 v5 (fun v6 => bK (nEq v6 4294967295) (lK2 M4 281 780 7500 7656 a2 (fun v44 => jn (fun (M45 : Nat) => rbK 0 M45) (fun (j69 : ( Nat → RN)) => bK (nLt v44 32) (j69 M4) (cI (m_X10_operatorIn v44 M4) (fun v47 M46 => bK (nEq v47 v5) (lK M46 28 12 v5 (fun v48 => bK (zEq v48) (fK (oAdd v2 1) (fun v65 => fK (oAdd a2 1) (fun v66 => lp (fun _ _ _ _ => none) (fun (j99 : (Nat → Nat → Nat →  Nat → RN)) => fun (x67 : Nat) (x68 : Nat) (x69 : Nat) (M70 : Nat) => dvK Nat.mod v3 8 (fun v71 => bK (nGe x69 v71) (rbK 1 M70) (lK2 M70 281 780 7500 7656 x67 (fun v72 => lK2 M70 281 780 7500 7656 x68 (fun v73 => cI (m_X2_argumentFits v72 v73 M70) (fun v75 M74 => bK (zNe v75) (cI (m_X8_end x67 M74) (fun v77 M76 => cI (m_X8_end x68 M76) (fun v79 M78 => fK (oAdd x69 1) (fun v80 => j99 v77 v79 v80 M78)))) (rbK 0 M74))))))) (fun (j99 : (Nat → Nat → Nat →  Nat → RN)) => j99 v65 v66 0 M46)))) none)) (j69 M46)))))) none))))
set_option maxRecDepth 100000 in
theorem snd_X2_canFit {l : Launch} {g : GV} {D : va_G} {sl q : Nat} {a1 a2 M0 : Nat} {r : Nat × Nat} (h : m_X2_canFit a1 a2 M0 = some r) : SN l g D sl 3 0 q q 42 0 [(0, .inr (.inr (.inl 17))), (1, .inl a1), (2, .inl a2)] [] M0 (PR r) := by
  unfold m_X2_canFit at h
  refine b_aln (pc' := 1) (a := .inr (.inr (.inl 17))) tb_X2_canFit r_X2_canFit_0 rfl rfl rfl ?_
  refine b_iln (pc' := 2) (a := .inl a1) tb_X2_canFit r_X2_canFit_1 rfl rfl rfl ?_
  refine b_ic (pc' := 3) (0) tb_X2_canFit r_X2_canFit_2 rfl rfl ?_
  obtain ⟨v2, M1, ov2, h⟩ := cI_in h
  refine b_vI (pc' := 6) tb_X2_canFit r_X2_canFit_3 tb_X2_partAt mo_X2_partAt (by decide) rfl rfl ov2 (fun r hr => snd_X2_partAt hr) (by decide) rfl rfl rfl ?_
  refine b_stn (pc' := 7) [(3, .inl v2), (0, .inr (.inr (.inl 17))), (1, .inl a1), (2, .inl a2)] tb_X2_canFit r_X2_canFit_6 rfl rfl rfl rfl ?_
  refine b_aln (pc' := 8) (a := .inr (.inr (.inl 17))) tb_X2_canFit r_X2_canFit_7 rfl rfl rfl ?_
  refine b_gr (pc' := 11) tb_X2_canFit r_X2_canFit_8 tF_17_2_0 rfl ?_
  refine b_gr (pc' := 14) tb_X2_canFit r_X2_canFit_11 tF_11_8_1 rfl ?_
  refine b_iln (pc' := 15) (a := .inl v2) tb_X2_canFit r_X2_canFit_14 rfl rfl rfl ?_
  obtain ⟨v3, _, dv3, cv3, h⟩ := lK2_in h
  refine b_ia2 (pc' := 16) tb_X2_canFit r_X2_canFit_15 tA_12 dv3 cv3 rfl ?_
  refine b_st (pc' := 18) [(4, .inl v3), (3, .inl v2), (0, .inr (.inr (.inl 17))), (1, .inl a1), (2, .inl a2)] tb_X2_canFit r_X2_canFit_16 rfl rfl rfl rfl ?_
  refine b_il (pc' := 20) (a := .inl v3) tb_X2_canFit r_X2_canFit_18 rfl rfl rfl ?_
  obtain ⟨v5, M4, ov5, h⟩ := cI_in h
  refine b_sI (pc' := 23) tb_X2_canFit r_X2_canFit_20 tb_X10_operatorIn mo_X10_operatorIn (by decide) rfl rfl ov5 (fun r hr => snd_X10_operatorIn hr) (by decide) rfl rfl rfl ?_
  refine b_st (pc' := 25) [(5, .inl v5), (4, .inl v3), (3, .inl v2), (0, .inr (.inr (.inl 17))), (1, .inl a1), (2, .inl a2)] tb_X2_canFit r_X2_canFit_23 rfl rfl rfl rfl ?_
  refine b_aln (pc' := 26) (a := .inr (.inr (.inl 17))) tb_X2_canFit r_X2_canFit_25 rfl rfl rfl ?_
  refine b_gr (pc' := 29) tb_X2_canFit r_X2_canFit_26 tF_17_2_1 rfl ?_
  refine b_gr (pc' := 32) tb_X2_canFit r_X2_canFit_29 tF_1_7_6 rfl ?_
  refine b_il (pc' := 34) (a := .inl v5) tb_X2_canFit r_X2_canFit_32 rfl rfl rfl ?_
  obtain ⟨v6, dv6, cv6, h⟩ := lK_in h
  refine b_ia (pc' := 35) tb_X2_canFit r_X2_canFit_34 tA_6 dv6 cv6 rfl ?_
  refine b_ic (pc' := 36) (4294967295) tb_X2_canFit r_X2_canFit_35 rfl rfl ?_
  obtain ⟨c1, h⟩ := bK_t h
  refine b_icT (t := 41) tb_X2_canFit r_X2_canFit_36 rfl ((nEq_c _ _).symm.trans c1) ?_
  refine b_aln (pc' := 42) (a := .inr (.inr (.inl 17))) tb_X2_canFit r_X2_canFit_41 rfl rfl rfl ?_
  refine b_gr (pc' := 45) tb_X2_canFit r_X2_canFit_42 tF_17_2_0 rfl ?_
  refine b_gr (pc' := 48) tb_X2_canFit r_X2_canFit_45 tF_11_8_1 rfl ?_
  refine b_iln (pc' := 49) (a := .inl a2) tb_X2_canFit r_X2_canFit_48 rfl rfl rfl ?_
  obtain ⟨v44, _, dv44, cv44, h⟩ := lK2_in h
  refine b_ia2 (pc' := 50) tb_X2_canFit r_X2_canFit_49 tA_12 dv44 cv44 rfl ?_
  refine b_st (pc' := 52) [(6, .inl v44), (5, .inl v5), (4, .inl v3), (3, .inl v2), (0, .inr (.inr (.inl 17))), (1, .inl a1), (2, .inl a2)] tb_X2_canFit r_X2_canFit_50 rfl rfl rfl rfl ?_
  refine b_il (pc' := 54) (a := .inl v44) tb_X2_canFit r_X2_canFit_52 rfl rfl rfl ?_
  refine b_bi (pc' := 56) (32) tb_X2_canFit r_X2_canFit_54 rfl rfl rfl ?_
  refine jn_in (R := fun (j69 : ( Nat → RN)) => ∀ (M45 : Nat), j69 M45 = some r → SN l g D sl 3 0 q q 42 69 [] [] M45 (PR r)) h (fun M45 h => ?_) (fun j69 hj69 h => ?_)
  · skip
    refine b_ic (pc' := 70) (0) tb_X2_canFit r_X2_canFit_69 rfl rfl ?_
    obtain ⟨c1, h⟩ := rbK_in h
    exact b_rb tb_X2_canFit r_X2_canFit_70 rfl c1 h
  rcases bK_in h with ⟨c1, h⟩ | ⟨c1, h⟩
  · refine b_icT (t := 69) tb_X2_canFit r_X2_canFit_56 rfl ((nLt_c _ _).symm.trans c1) ?_
    refine b_sub9 [] trivial ?_
    exact hj69 _ h
  · refine b_icF (t := 69) (pc' := 59) tb_X2_canFit r_X2_canFit_56 rfl ((nLt_c _ _).symm.trans c1) rfl ?_
    refine b_il (pc' := 61) (a := .inl v44) tb_X2_canFit r_X2_canFit_59 rfl rfl rfl ?_
    obtain ⟨v47, M46, ov47, h⟩ := cI_in h
    refine b_sI (pc' := 64) tb_X2_canFit r_X2_canFit_61 tb_X10_operatorIn mo_X10_operatorIn (by decide) rfl rfl ov47 (fun r hr => snd_X10_operatorIn hr) (by decide) rfl rfl rfl ?_
    refine b_il (pc' := 66) (a := .inl v5) tb_X2_canFit r_X2_canFit_64 rfl rfl rfl ?_
    rcases bK_in h with ⟨c1, h⟩ | ⟨c1, h⟩
    · refine b_icT (t := 71) tb_X2_canFit r_X2_canFit_66 rfl ((nEq_c _ _).symm.trans c1) ?_
      refine b_aln (pc' := 72) (a := .inr (.inr (.inl 17))) tb_X2_canFit r_X2_canFit_71 rfl rfl rfl ?_
      refine b_gr (pc' := 75) tb_X2_canFit r_X2_canFit_72 tF_17_2_1 rfl ?_
      refine b_gr (pc' := 78) tb_X2_canFit r_X2_canFit_75 tF_1_7_5 rfl ?_
      refine b_il (pc' := 80) (a := .inl v5) tb_X2_canFit r_X2_canFit_78 rfl rfl rfl ?_
      obtain ⟨v48, dv48, cv48, h⟩ := lK_in h
      refine b_ia (pc' := 81) tb_X2_canFit r_X2_canFit_80 tA_5 dv48 cv48 rfl ?_
      obtain ⟨c1, h⟩ := bK_t h
      refine b_ifT (t := 86) tb_X2_canFit r_X2_canFit_81 rfl ((zEq_c _).symm.trans c1) ?_
      refine b_iln (pc' := 87) (a := .inl v2) tb_X2_canFit r_X2_canFit_86 rfl rfl rfl ?_
      refine b_ic (pc' := 88) (1) tb_X2_canFit r_X2_canFit_87 rfl rfl ?_
      refine b_add (pc' := 89) tb_X2_canFit r_X2_canFit_88 rfl ?_
      obtain ⟨v65, ev65, h⟩ := fK_v h
      rw [ev65]
      refine b_st (pc' := 91) [(7, .inl v65), (6, .inl v44), (5, .inl v5), (4, .inl v3), (3, .inl v2), (0, .inr (.inr (.inl 17))), (1, .inl a1), (2, .inl a2)] tb_X2_canFit r_X2_canFit_89 rfl rfl rfl rfl ?_
      refine b_iln (pc' := 92) (a := .inl a2) tb_X2_canFit r_X2_canFit_91 rfl rfl rfl ?_
      refine b_ic (pc' := 93) (1) tb_X2_canFit r_X2_canFit_92 rfl rfl ?_
      refine b_add (pc' := 94) tb_X2_canFit r_X2_canFit_93 rfl ?_
      obtain ⟨v66, ev66, h⟩ := fK_v h
      rw [ev66]
      refine b_st (pc' := 96) [(8, .inl v66), (7, .inl v65), (6, .inl v44), (5, .inl v5), (4, .inl v3), (3, .inl v2), (0, .inr (.inr (.inl 17))), (1, .inl a1), (2, .inl a2)] tb_X2_canFit r_X2_canFit_94 rfl rfl rfl rfl ?_
      refine b_ic (pc' := 97) (0) tb_X2_canFit r_X2_canFit_96 rfl rfl ?_
      refine b_st (pc' := 99) [(9, .inl 0), (8, .inl v66), (7, .inl v65), (6, .inl v44), (5, .inl v5), (4, .inl v3), (3, .inl v2), (0, .inr (.inr (.inl 17))), (1, .inl a1), (2, .inl a2)] tb_X2_canFit r_X2_canFit_97 rfl rfl rfl rfl ?_
      refine lp_in (R := fun (j99 : (Nat → Nat → Nat → Nat → RN)) => ∀ (x67 x68 x69 M70 : Nat), j99 x67 x68 x69 M70 = some r → SN l g D sl 3 0 q q 42 99 [(0, .inr (.inr (.inl 17))), (4, .inl v3), (7, .inl x67), (8, .inl x68), (9, .inl x69)] [] M70 (PR r)) h (fun _ _ _ _ h => by cases h) (fun j99 hj99 => ?_) (fun j99 hj99 h => ?_)
      · intro x67 x68 x69 M70 h
        refine b_il (pc' := 101) (a := .inl x69) tb_X2_canFit r_X2_canFit_99 rfl rfl rfl ?_
        refine b_il (pc' := 103) (a := .inl v3) tb_X2_canFit r_X2_canFit_101 rfl rfl rfl ?_
        refine b_bi (pc' := 105) (8) tb_X2_canFit r_X2_canFit_103 rfl rfl rfl ?_
        obtain ⟨v71, c1, c2, c3, ev71, h⟩ := dvK_in h
        refine b_rem (pc' := 106) tb_X2_canFit r_X2_canFit_105 c1 c2 c3 ev71 rfl ?_
        rcases bK_in h with ⟨c1, h⟩ | ⟨c1, h⟩
        · refine b_icT (t := 166) tb_X2_canFit r_X2_canFit_106 rfl ((nGe_c _ _).symm.trans c1) ?_
          refine b_ic (pc' := 167) (1) tb_X2_canFit r_X2_canFit_166 rfl rfl ?_
          obtain ⟨c1, h⟩ := rbK_in h
          exact b_rb tb_X2_canFit r_X2_canFit_167 rfl c1 h
        · refine b_icF (t := 166) (pc' := 109) tb_X2_canFit r_X2_canFit_106 rfl ((nGe_c _ _).symm.trans c1) rfl ?_
          refine b_aln (pc' := 110) (a := .inr (.inr (.inl 17))) tb_X2_canFit r_X2_canFit_109 rfl rfl rfl ?_
          refine b_aln (pc' := 111) (a := .inr (.inr (.inl 17))) tb_X2_canFit r_X2_canFit_110 rfl rfl rfl ?_
          refine b_gr (pc' := 114) tb_X2_canFit r_X2_canFit_111 tF_17_2_0 rfl ?_
          refine b_gr (pc' := 117) tb_X2_canFit r_X2_canFit_114 tF_11_8_1 rfl ?_
          refine b_il (pc' := 119) (a := .inl x67) tb_X2_canFit r_X2_canFit_117 rfl rfl rfl ?_
          obtain ⟨v72, _, dv72, cv72, h⟩ := lK2_in h
          refine b_ia2 (pc' := 120) tb_X2_canFit r_X2_canFit_119 tA_12 dv72 cv72 rfl ?_
          refine b_aln (pc' := 121) (a := .inr (.inr (.inl 17))) tb_X2_canFit r_X2_canFit_120 rfl rfl rfl ?_
          refine b_gr (pc' := 124) tb_X2_canFit r_X2_canFit_121 tF_17_2_0 rfl ?_
          refine b_gr (pc' := 127) tb_X2_canFit r_X2_canFit_124 tF_11_8_1 rfl ?_
          refine b_il (pc' := 129) (a := .inl x68) tb_X2_canFit r_X2_canFit_127 rfl rfl rfl ?_
          obtain ⟨v73, _, dv73, cv73, h⟩ := lK2_in h
          refine b_ia2 (pc' := 130) tb_X2_canFit r_X2_canFit_129 tA_12 dv73 cv73 rfl ?_
          obtain ⟨v75, M74, ov75, h⟩ := cI_in h
          refine b_vI (pc' := 133) tb_X2_canFit r_X2_canFit_130 tb_X2_argumentFits mo_X2_argumentFits (by decide) rfl rfl ov75 (fun r hr => snd_X2_argumentFits hr) (by decide) rfl rfl rfl ?_
          rcases bK_in h with ⟨c1, h⟩ | ⟨c1, h⟩
          · refine b_ifT (t := 138) tb_X2_canFit r_X2_canFit_133 rfl ((zNe_c _).symm.trans c1) ?_
            refine b_aln (pc' := 139) (a := .inr (.inr (.inl 17))) tb_X2_canFit r_X2_canFit_138 rfl rfl rfl ?_
            refine b_gr (pc' := 142) tb_X2_canFit r_X2_canFit_139 tF_17_2_0 rfl ?_
            refine b_il (pc' := 144) (a := .inl x67) tb_X2_canFit r_X2_canFit_142 rfl rfl rfl ?_
            obtain ⟨v77, M76, ov77, h⟩ := cI_in h
            refine b_vI (pc' := 147) tb_X2_canFit r_X2_canFit_144 tb_X8_end mo_X8_end (by decide) rfl rfl ov77 (fun r hr => snd_X8_end hr) (by decide) rfl rfl rfl ?_
            refine b_st (pc' := 149) [(7, .inl v77), (0, .inr (.inr (.inl 17))), (4, .inl v3), (8, .inl x68), (9, .inl x69)] tb_X2_canFit r_X2_canFit_147 rfl rfl rfl rfl ?_
            refine b_aln (pc' := 150) (a := .inr (.inr (.inl 17))) tb_X2_canFit r_X2_canFit_149 rfl rfl rfl ?_
            refine b_gr (pc' := 153) tb_X2_canFit r_X2_canFit_150 tF_17_2_0 rfl ?_
            refine b_il (pc' := 155) (a := .inl x68) tb_X2_canFit r_X2_canFit_153 rfl rfl rfl ?_
            obtain ⟨v79, M78, ov79, h⟩ := cI_in h
            refine b_vI (pc' := 158) tb_X2_canFit r_X2_canFit_155 tb_X8_end mo_X8_end (by decide) rfl rfl ov79 (fun r hr => snd_X8_end hr) (by decide) rfl rfl rfl ?_
            refine b_st (pc' := 160) [(8, .inl v79), (7, .inl v77), (0, .inr (.inr (.inl 17))), (4, .inl v3), (9, .inl x69)] tb_X2_canFit r_X2_canFit_158 rfl rfl rfl rfl ?_
            refine b_inc (pc' := 163) (v := x69) (n := 1) [(9, .inl (oAdd x69 1)), (8, .inl v79), (7, .inl v77), (0, .inr (.inr (.inl 17))), (4, .inl v3)] tb_X2_canFit r_X2_canFit_160 rfl rfl rfl rfl rfl ?_
            obtain ⟨v80, ev80, h⟩ := fK_v h
            rw [ev80]
            refine b_goto (pc' := 99) tb_X2_canFit r_X2_canFit_163 rfl ?_
            refine b_sub9 [(0, .inr (.inr (.inl 17))), (4, .inl v3), (7, .inl v77), (8, .inl v79), (9, .inl v80)] ⟨rfl, rfl, rfl, rfl, rfl, trivial⟩ ?_
            exact hj99 _ _ _ _ h
          · refine b_ifF (t := 138) (pc' := 136) tb_X2_canFit r_X2_canFit_133 rfl ((zNe_c _).symm.trans c1) rfl ?_
            refine b_ic (pc' := 137) (0) tb_X2_canFit r_X2_canFit_136 rfl rfl ?_
            obtain ⟨c1, h⟩ := rbK_in h
            exact b_rb tb_X2_canFit r_X2_canFit_137 rfl c1 h
      refine b_sub9 [(0, .inr (.inr (.inl 17))), (4, .inl v3), (7, .inl v65), (8, .inl v66), (9, .inl 0)] ⟨rfl, rfl, rfl, rfl, rfl, trivial⟩ ?_
      exact hj99 _ _ _ _ h
    · refine b_icF (t := 71) (pc' := 69) tb_X2_canFit r_X2_canFit_66 rfl ((nEq_c _ _).symm.trans c1) rfl ?_
      refine b_sub9 [] trivial ?_
      exact hj69 _ h
noncomputable def m_X6_decide (a1 a2 a3 a4 : Nat) (M0 : Nat) : RN :=
  lK M0 1252 2 a1 (fun v1 => bK (zNe v1) none (some (Nat.add 1 2, M0)))
set_option maxRecDepth 100000 in
theorem snd_X6_decide {l : Launch} {g : GV} {D : va_G} {sl q : Nat} {a1 a2 a3 a4 M0 : Nat} {r : Nat × Nat} (h : m_X6_decide a1 a2 a3 a4 M0 = some r) : SN l g D sl 1 0 q q 70 0 [(0, .inr (.inr (.inl 40))), (1, .inl a1), (2, .inl a2), (3, .inl a3), (4, .inl a4)] [] M0 (PR r) := by
  unfold m_X6_decide at h
  refine b_aln (pc' := 1) (a := .inr (.inr (.inl 40))) tb_X6_decide r_X6_decide_0 rfl rfl rfl ?_
  refine b_gr (pc' := 4) tb_X6_decide r_X6_decide_1 tF_40_6_1 rfl ?_
  refine b_gr (pc' := 7) tb_X6_decide r_X6_decide_4 tF_17_2_4 rfl ?_
  refine b_iln (pc' := 8) (a := .inl a1) tb_X6_decide r_X6_decide_7 rfl rfl rfl ?_
  obtain ⟨v1, dv1, cv1, h⟩ := lK_in h
  refine b_ba (pc' := 9) tb_X6_decide r_X6_decide_8 tA_18 dv1 cv1 rfl ?_
  obtain ⟨c1, h⟩ := bK_f h
  refine b_ifF (t := 14) (pc' := 12) tb_X6_decide r_X6_decide_9 rfl ((zNe_c _).symm.trans c1) rfl ?_
  refine b_ic (pc' := 13) (1) tb_X6_decide r_X6_decide_12 rfl rfl ?_
  exact b_ri tb_X6_decide r_X6_decide_13 rfl (sj h).symm
noncomputable def m_X8_settle (a1 a2 : Nat) (M0 : Nat) : RN :=
  bK (nGe a2 a1) (cI (m_X8_end a2 M0) (fun v2 M1 => fK (oSub v2 a2) (fun v3 => cpK M1 281 780 7500 7656 a2 a1 v3 (fun M4 => pK M4 276 (oAdd a1 v3) (fun M5 => some (Nat.add a1 2, M5)))))) (pK M0 276 a1 (fun M6 => some (Nat.add a2 2, M6)))
set_option maxRecDepth 100000 in
theorem snd_X8_settle {l : Launch} {g : GV} {D : va_G} {sl q : Nat} {a1 a2 M0 : Nat} {r : Nat × Nat} (h : m_X8_settle a1 a2 M0 = some r) : SN l g D sl 2 0 q q 74 0 [(0, .inr (.inr (.inl 11))), (1, .inl a1), (2, .inl a2)] [] M0 (PR r) := by
  unfold m_X8_settle at h
  refine b_iln (pc' := 1) (a := .inl a2) tb_X8_settle r_X8_settle_0 rfl rfl rfl ?_
  refine b_iln (pc' := 2) (a := .inl a1) tb_X8_settle r_X8_settle_1 rfl rfl rfl ?_
  rcases bK_in h with ⟨c1, h⟩ | ⟨c1, h⟩
  · refine b_icT (t := 12) tb_X8_settle r_X8_settle_2 rfl ((nGe_c _ _).symm.trans c1) ?_
    refine b_aln (pc' := 13) (a := .inr (.inr (.inl 11))) tb_X8_settle r_X8_settle_12 rfl rfl rfl ?_
    refine b_iln (pc' := 14) (a := .inl a2) tb_X8_settle r_X8_settle_13 rfl rfl rfl ?_
    obtain ⟨v2, M1, ov2, h⟩ := cI_in h
    refine b_vI (pc' := 17) tb_X8_settle r_X8_settle_14 tb_X8_end mo_X8_end (by decide) rfl rfl ov2 (fun r hr => snd_X8_end hr) (by decide) rfl rfl rfl ?_
    refine b_iln (pc' := 18) (a := .inl a2) tb_X8_settle r_X8_settle_17 rfl rfl rfl ?_
    refine b_sub (pc' := 19) tb_X8_settle r_X8_settle_18 rfl ?_
    obtain ⟨v3, ev3, h⟩ := fK_v h
    rw [ev3]
    refine b_stn (pc' := 20) [(3, .inl v3), (0, .inr (.inr (.inl 11))), (1, .inl a1), (2, .inl a2)] tb_X8_settle r_X8_settle_19 rfl rfl rfl rfl ?_
    refine b_aln (pc' := 21) (a := .inr (.inr (.inl 11))) tb_X8_settle r_X8_settle_20 rfl rfl rfl ?_
    refine b_gr (pc' := 24) tb_X8_settle r_X8_settle_21 tF_11_8_1 rfl ?_
    refine b_iln (pc' := 25) (a := .inl a2) tb_X8_settle r_X8_settle_24 rfl rfl rfl ?_
    refine b_aln (pc' := 26) (a := .inr (.inr (.inl 11))) tb_X8_settle r_X8_settle_25 rfl rfl rfl ?_
    refine b_gr (pc' := 29) tb_X8_settle r_X8_settle_26 tF_11_8_1 rfl ?_
    refine b_iln (pc' := 30) (a := .inl a1) tb_X8_settle r_X8_settle_29 rfl rfl rfl ?_
    refine b_iln (pc' := 31) (a := .inl v3) tb_X8_settle r_X8_settle_30 rfl rfl rfl ?_
    obtain ⟨M4, _, _, dM4, fM4, cM4, h⟩ := cpK_in h
    refine b_cp (pc' := 34) tb_X8_settle r_X8_settle_31 tA_12 rfl dM4 fM4 cM4 rfl ?_
    refine b_aln (pc' := 35) (a := .inr (.inr (.inl 11))) tb_X8_settle r_X8_settle_34 rfl rfl rfl ?_
    refine b_iln (pc' := 36) (a := .inl a1) tb_X8_settle r_X8_settle_35 rfl rfl rfl ?_
    refine b_iln (pc' := 37) (a := .inl v3) tb_X8_settle r_X8_settle_36 rfl rfl rfl ?_
    refine b_add (pc' := 38) tb_X8_settle r_X8_settle_37 rfl ?_
    obtain ⟨M5, cM5, h⟩ := pK_in h
    refine b_pi (pc' := 41) tb_X8_settle r_X8_settle_38 rfl tF_11_8_2 cM5 rfl ?_
    refine b_iln (pc' := 42) (a := .inl a1) tb_X8_settle r_X8_settle_41 rfl rfl rfl ?_
    exact b_ri tb_X8_settle r_X8_settle_42 rfl (sj h).symm
  · refine b_icF (t := 12) (pc' := 5) tb_X8_settle r_X8_settle_2 rfl ((nGe_c _ _).symm.trans c1) rfl ?_
    refine b_aln (pc' := 6) (a := .inr (.inr (.inl 11))) tb_X8_settle r_X8_settle_5 rfl rfl rfl ?_
    refine b_iln (pc' := 7) (a := .inl a1) tb_X8_settle r_X8_settle_6 rfl rfl rfl ?_
    obtain ⟨M6, cM6, h⟩ := pK_in h
    refine b_pi (pc' := 10) tb_X8_settle r_X8_settle_7 rfl tF_11_8_2 cM6 rfl ?_
    refine b_iln (pc' := 11) (a := .inl a2) tb_X8_settle r_X8_settle_10 rfl rfl rfl ?_
    exact b_ri tb_X8_settle r_X8_settle_11 rfl (sj h).symm
noncomputable def m_X6_rewritten (a1 a2 : Nat) (M0 : Nat) : RN :=
  rK M0 276 (fun v1 => lp (fun _ _ => none) (fun (j11 : (Nat →  Nat → RN)) => fun (x2 : Nat) (M3 : Nat) => rK M3 1250 (fun v4 => bK (nGe x2 v4) (some (Nat.add 4294967295 2, M3)) (cI (m_X2_canFit x2 a1 M3) (fun v6 M5 => jn (fun (s7 : Nat) (M8 : Nat) => uK M8 1256 (fun v9 => uK M8 1257 (fun v10 => bK (nGe 0 s7) (pK M8 276 v1 (fun M11 => fK (oAdd x2 1) (fun v12 => j11 v12 M11))) (fK (oAdd v9 0) (fun v13 => cI (m_X6_decide x2 v13 v10 a2 M8) (fun v15 M14 => bK (nNe v15 1) none (rK M14 2090 (fun v16 => pK M14 2090 (oAdd v16 1) (fun M17 => cI (m_X2_partAt x2 0 M17) (fun v19 M18 => fK (oAdd v9 0) (fun v20 => cV (m_X3_giveMatch v19 v20 v10 M18) (fun M21 => rK M21 2090 (fun v22 => bK (nLe v22 60) (cI (m_X2_partAt x2 1 M21) (fun v32 M31 => cI (m_X8_rebuild 12 v32 M31) (fun v34 M33 => bK (zGe v34) (cI (m_X8_settle v1 v34 M33) (fun v38 M37 => some (Nat.add v38 2, M37))) none))) none))))))))))) (bK (nGe 0 s7) (pK M8 276 v1 (fun M42 => fK (oAdd x2 1) (fun v43 => j11 v43 M42))) none)) (uK M8 1257 (fun v44 => bK (nGe 0 s7) (pK M8 276 v1 (fun M47 => fK (oAdd x2 1) (fun v48 => j11 v48 M47))) none) (bK (nGe 0 s7) (pK M8 276 v1 (fun M51 => fK (oAdd x2 1) (fun v52 => j11 v52 M51))) none))) (fun (j58 : (Nat →  Nat → RN)) => bK (zEq v6) (j58 0 M5) (cI (m_X2_partAt x2 0 M5) (fun v54 M53 => cI (m_X3_list v54 a1 M53) (fun v56 M55 => j58 v56 M55)))))))) (fun (j11 : (Nat →  Nat → RN)) => j11 0 M0))
set_option maxRecDepth 100000 in
theorem snd_X6_rewritten {l : Launch} {g : GV} {D : va_G} {sl q : Nat} {a1 a2 M0 : Nat} {r : Nat × Nat} (h : m_X6_rewritten a1 a2 M0 = some r) : SN l g D sl 187 0 q q 69 0 [(0, .inr (.inr (.inl 40))), (1, .inl a1), (2, .inl a2)] [] M0 (PR r) := by
  unfold m_X6_rewritten at h
  refine b_aln (pc' := 1) (a := .inr (.inr (.inl 40))) tb_X6_rewritten r_X6_rewritten_0 rfl rfl rfl ?_
  refine b_gr (pc' := 4) tb_X6_rewritten r_X6_rewritten_1 tF_40_6_0 rfl ?_
  obtain ⟨v1, cv1, h⟩ := rK_in h
  refine b_gi (pc' := 7) tb_X6_rewritten r_X6_rewritten_4 tF_11_8_2 cv1 rfl ?_
  refine b_stn (pc' := 8) [(3, .inl v1), (0, .inr (.inr (.inl 40))), (1, .inl a1), (2, .inl a2)] tb_X6_rewritten r_X6_rewritten_7 rfl rfl rfl rfl ?_
  refine b_ic (pc' := 9) (0) tb_X6_rewritten r_X6_rewritten_8 rfl rfl ?_
  refine b_st (pc' := 11) [(4, .inl 0), (3, .inl v1), (0, .inr (.inr (.inl 40))), (1, .inl a1), (2, .inl a2)] tb_X6_rewritten r_X6_rewritten_9 rfl rfl rfl rfl ?_
  refine lp_in (R := fun (j11 : (Nat → Nat → RN)) => ∀ (x2 M3 : Nat), j11 x2 M3 = some r → SN l g D sl 187 0 q q 69 11 [(0, .inr (.inr (.inl 40))), (1, .inl a1), (2, .inl a2), (3, .inl v1), (4, .inl x2)] [] M3 (PR r)) h (fun _ _ h => by cases h) (fun j11 hj11 => ?_) (fun j11 hj11 h => ?_)
  · intro x2 M3 h
    refine b_il (pc' := 13) (a := .inl x2) tb_X6_rewritten r_X6_rewritten_11 rfl rfl rfl ?_
    refine b_aln (pc' := 14) (a := .inr (.inr (.inl 40))) tb_X6_rewritten r_X6_rewritten_13 rfl rfl rfl ?_
    refine b_gr (pc' := 17) tb_X6_rewritten r_X6_rewritten_14 tF_40_6_1 rfl ?_
    obtain ⟨v4, cv4, h⟩ := rK_in h
    refine b_gi (pc' := 20) tb_X6_rewritten r_X6_rewritten_17 tF_17_2_2 cv4 rfl ?_
    rcases bK_in h with ⟨c1, h⟩ | ⟨c1, h⟩
    · refine b_icT (t := 228) tb_X6_rewritten r_X6_rewritten_20 rfl ((nGe_c _ _).symm.trans c1) ?_
      refine b_ic (pc' := 229) (4294967295) tb_X6_rewritten r_X6_rewritten_228 rfl rfl ?_
      exact b_ri tb_X6_rewritten r_X6_rewritten_229 rfl (sj h).symm
    · refine b_icF (t := 228) (pc' := 23) tb_X6_rewritten r_X6_rewritten_20 rfl ((nGe_c _ _).symm.trans c1) rfl ?_
      refine b_aln (pc' := 24) (a := .inr (.inr (.inl 40))) tb_X6_rewritten r_X6_rewritten_23 rfl rfl rfl ?_
      refine b_gr (pc' := 27) tb_X6_rewritten r_X6_rewritten_24 tF_40_6_1 rfl ?_
      refine b_il (pc' := 29) (a := .inl x2) tb_X6_rewritten r_X6_rewritten_27 rfl rfl rfl ?_
      refine b_iln (pc' := 30) (a := .inl a1) tb_X6_rewritten r_X6_rewritten_29 rfl rfl rfl ?_
      obtain ⟨v6, M5, ov6, h⟩ := cI_in h
      refine b_vI (pc' := 33) tb_X6_rewritten r_X6_rewritten_30 tb_X2_canFit mo_X2_canFit (by decide) rfl rfl ov6 (fun r hr => snd_X2_canFit hr) (by decide) rfl rfl rfl ?_
      refine jn_in (R := fun (j58 : (Nat → Nat → RN)) => ∀ (s7 M8 : Nat), j58 s7 M8 = some r → SN l g D sl 187 0 q q 69 58 [(0, .inr (.inr (.inl 40))), (1, .inl a1), (2, .inl a2), (3, .inl v1), (4, .inl x2)] [.inl s7] M8 (PR r)) h (fun s7 M8 h => ?_) (fun j58 hj58 h => ?_)
      · skip
        refine b_st (pc' := 60) [(5, .inl s7), (0, .inr (.inr (.inl 40))), (1, .inl a1), (2, .inl a2), (3, .inl v1), (4, .inl x2)] tb_X6_rewritten r_X6_rewritten_58 rfl rfl rfl rfl ?_
        refine b_aln (pc' := 61) (a := .inr (.inr (.inl 40))) tb_X6_rewritten r_X6_rewritten_60 rfl rfl rfl ?_
        refine b_gr (pc' := 64) tb_X6_rewritten r_X6_rewritten_61 tF_40_6_2 rfl ?_
        rcases uK_in h with ⟨v9, cv9, h⟩ | h
        · refine b_gi (pc' := 67) tb_X6_rewritten r_X6_rewritten_64 tF_19_3_13 cv9 rfl ?_
          refine b_st (pc' := 69) [(6, .inl v9), (5, .inl s7), (0, .inr (.inr (.inl 40))), (1, .inl a1), (2, .inl a2), (3, .inl v1), (4, .inl x2)] tb_X6_rewritten r_X6_rewritten_67 rfl rfl rfl rfl ?_
          refine b_aln (pc' := 70) (a := .inr (.inr (.inl 40))) tb_X6_rewritten r_X6_rewritten_69 rfl rfl rfl ?_
          refine b_gr (pc' := 73) tb_X6_rewritten r_X6_rewritten_70 tF_40_6_2 rfl ?_
          rcases uK_in h with ⟨v10, cv10, h⟩ | h
          · refine b_gi (pc' := 76) tb_X6_rewritten r_X6_rewritten_73 tF_19_3_14 cv10 rfl ?_
            refine b_st (pc' := 78) [(7, .inl v10), (6, .inl v9), (5, .inl s7), (0, .inr (.inr (.inl 40))), (1, .inl a1), (2, .inl a2), (3, .inl v1), (4, .inl x2)] tb_X6_rewritten r_X6_rewritten_76 rfl rfl rfl rfl ?_
            refine b_ic (pc' := 79) (0) tb_X6_rewritten r_X6_rewritten_78 rfl rfl ?_
            refine b_st (pc' := 81) [(8, .inl 0), (7, .inl v10), (6, .inl v9), (5, .inl s7), (0, .inr (.inr (.inl 40))), (1, .inl a1), (2, .inl a2), (3, .inl v1), (4, .inl x2)] tb_X6_rewritten r_X6_rewritten_79 rfl rfl rfl rfl ?_
            refine b_il (pc' := 83) (a := .inl 0) tb_X6_rewritten r_X6_rewritten_81 rfl rfl rfl ?_
            refine b_il (pc' := 85) (a := .inl s7) tb_X6_rewritten r_X6_rewritten_83 rfl rfl rfl ?_
            rcases bK_in h with ⟨c1, h⟩ | ⟨c1, h⟩
            · refine b_icT (t := 214) tb_X6_rewritten r_X6_rewritten_85 rfl ((nGe_c _ _).symm.trans c1) ?_
              refine b_aln (pc' := 215) (a := .inr (.inr (.inl 40))) tb_X6_rewritten r_X6_rewritten_214 rfl rfl rfl ?_
              refine b_gr (pc' := 218) tb_X6_rewritten r_X6_rewritten_215 tF_40_6_0 rfl ?_
              refine b_iln (pc' := 219) (a := .inl v1) tb_X6_rewritten r_X6_rewritten_218 rfl rfl rfl ?_
              obtain ⟨M11, cM11, h⟩ := pK_in h
              refine b_pi (pc' := 222) tb_X6_rewritten r_X6_rewritten_219 rfl tF_11_8_2 cM11 rfl ?_
              refine b_inc (pc' := 225) (v := x2) (n := 1) [(4, .inl (oAdd x2 1)), (8, .inl 0), (7, .inl v10), (6, .inl v9), (5, .inl s7), (0, .inr (.inr (.inl 40))), (1, .inl a1), (2, .inl a2), (3, .inl v1)] tb_X6_rewritten r_X6_rewritten_222 rfl rfl rfl rfl rfl ?_
              obtain ⟨v12, ev12, h⟩ := fK_v h
              rw [ev12]
              refine b_goto (pc' := 11) tb_X6_rewritten r_X6_rewritten_225 rfl ?_
              refine b_sub9 [(0, .inr (.inr (.inl 40))), (1, .inl a1), (2, .inl a2), (3, .inl v1), (4, .inl v12)] ⟨rfl, rfl, rfl, rfl, rfl, trivial⟩ ?_
              exact hj11 _ _ h
            · refine b_icF (t := 214) (pc' := 88) tb_X6_rewritten r_X6_rewritten_85 rfl ((nGe_c _ _).symm.trans c1) rfl ?_
              refine b_aln (pc' := 89) (a := .inr (.inr (.inl 40))) tb_X6_rewritten r_X6_rewritten_88 rfl rfl rfl ?_
              refine b_il (pc' := 91) (a := .inl x2) tb_X6_rewritten r_X6_rewritten_89 rfl rfl rfl ?_
              refine b_il (pc' := 93) (a := .inl v9) tb_X6_rewritten r_X6_rewritten_91 rfl rfl rfl ?_
              refine b_il (pc' := 95) (a := .inl 0) tb_X6_rewritten r_X6_rewritten_93 rfl rfl rfl ?_
              refine b_add (pc' := 96) tb_X6_rewritten r_X6_rewritten_95 rfl ?_
              refine b_il (pc' := 98) (a := .inl v10) tb_X6_rewritten r_X6_rewritten_96 rfl rfl rfl ?_
              refine b_iln (pc' := 99) (a := .inl a2) tb_X6_rewritten r_X6_rewritten_98 rfl rfl rfl ?_
              obtain ⟨v13, ev13, h⟩ := fK_v h
              rw [ev13]
              obtain ⟨v15, M14, ov15, h⟩ := cI_in h
              refine b_vI (pc' := 102) tb_X6_rewritten r_X6_rewritten_99 tb_X6_decide mo_X6_decide (by decide) rfl rfl ov15 (fun r hr => snd_X6_decide hr) (by decide) rfl rfl rfl ?_
              refine b_st (pc' := 104) [(9, .inl v15), (8, .inl 0), (7, .inl v10), (6, .inl v9), (5, .inl s7), (0, .inr (.inr (.inl 40))), (1, .inl a1), (2, .inl a2), (3, .inl v1), (4, .inl x2)] tb_X6_rewritten r_X6_rewritten_102 rfl rfl rfl rfl ?_
              refine b_il (pc' := 106) (a := .inl v15) tb_X6_rewritten r_X6_rewritten_104 rfl rfl rfl ?_
              refine b_ic (pc' := 107) (1) tb_X6_rewritten r_X6_rewritten_106 rfl rfl ?_
              obtain ⟨c1, h⟩ := bK_f h
              refine b_icF (t := 198) (pc' := 110) tb_X6_rewritten r_X6_rewritten_107 rfl ((nNe_c _ _).symm.trans c1) rfl ?_
              refine b_aln (pc' := 111) (a := .inr (.inr (.inl 40))) tb_X6_rewritten r_X6_rewritten_110 rfl rfl rfl ?_
              refine b_dup (pc' := 112) tb_X6_rewritten r_X6_rewritten_111 rfl rfl ?_
              obtain ⟨v16, cv16, h⟩ := rK_in h
              refine b_gi (pc' := 115) tb_X6_rewritten r_X6_rewritten_112 tF_40_6_3 cv16 rfl ?_
              refine b_ic (pc' := 116) (1) tb_X6_rewritten r_X6_rewritten_115 rfl rfl ?_
              refine b_add (pc' := 117) tb_X6_rewritten r_X6_rewritten_116 rfl ?_
              obtain ⟨M17, cM17, h⟩ := pK_in h
              refine b_pi (pc' := 120) tb_X6_rewritten r_X6_rewritten_117 rfl tF_40_6_3 cM17 rfl ?_
              refine b_aln (pc' := 121) (a := .inr (.inr (.inl 40))) tb_X6_rewritten r_X6_rewritten_120 rfl rfl rfl ?_
              refine b_gr (pc' := 124) tb_X6_rewritten r_X6_rewritten_121 tF_40_6_2 rfl ?_
              refine b_aln (pc' := 125) (a := .inr (.inr (.inl 40))) tb_X6_rewritten r_X6_rewritten_124 rfl rfl rfl ?_
              refine b_gr (pc' := 128) tb_X6_rewritten r_X6_rewritten_125 tF_40_6_1 rfl ?_
              refine b_il (pc' := 130) (a := .inl x2) tb_X6_rewritten r_X6_rewritten_128 rfl rfl rfl ?_
              refine b_ic (pc' := 131) (0) tb_X6_rewritten r_X6_rewritten_130 rfl rfl ?_
              obtain ⟨v19, M18, ov19, h⟩ := cI_in h
              refine b_vI (pc' := 134) tb_X6_rewritten r_X6_rewritten_131 tb_X2_partAt mo_X2_partAt (by decide) rfl rfl ov19 (fun r hr => snd_X2_partAt hr) (by decide) rfl rfl rfl ?_
              refine b_il (pc' := 136) (a := .inl v9) tb_X6_rewritten r_X6_rewritten_134 rfl rfl rfl ?_
              refine b_il (pc' := 138) (a := .inl 0) tb_X6_rewritten r_X6_rewritten_136 rfl rfl rfl ?_
              refine b_add (pc' := 139) tb_X6_rewritten r_X6_rewritten_138 rfl ?_
              refine b_il (pc' := 141) (a := .inl v10) tb_X6_rewritten r_X6_rewritten_139 rfl rfl rfl ?_
              obtain ⟨v20, ev20, h⟩ := fK_v h
              rw [ev20]
              obtain ⟨M21, oM21, h⟩ := cV_in h
              refine b_vV (pc' := 144) tb_X6_rewritten r_X6_rewritten_141 tb_X3_giveMatch mo_X3_giveMatch (by decide) rfl rfl oM21 (fun r hr => snd_X3_giveMatch hr) (by decide) rfl rfl rfl ?_
              refine b_aln (pc' := 145) (a := .inr (.inr (.inl 40))) tb_X6_rewritten r_X6_rewritten_144 rfl rfl rfl ?_
              obtain ⟨v22, cv22, h⟩ := rK_in h
              refine b_gi (pc' := 148) tb_X6_rewritten r_X6_rewritten_145 tF_40_6_3 cv22 rfl ?_
              refine b_bi (pc' := 150) (60) tb_X6_rewritten r_X6_rewritten_148 rfl rfl rfl ?_
              obtain ⟨c1, h⟩ := bK_t h
              refine b_icT (t := 158) tb_X6_rewritten r_X6_rewritten_150 rfl ((nLe_c _ _).symm.trans c1) ?_
              refine b_aln (pc' := 159) (a := .inr (.inr (.inl 40))) tb_X6_rewritten r_X6_rewritten_158 rfl rfl rfl ?_
              refine b_gr (pc' := 162) tb_X6_rewritten r_X6_rewritten_159 tF_40_6_0 rfl ?_
              refine b_aln (pc' := 163) (a := .inr (.inr (.inl 40))) tb_X6_rewritten r_X6_rewritten_162 rfl rfl rfl ?_
              refine b_gr (pc' := 166) tb_X6_rewritten r_X6_rewritten_163 tF_40_6_1 rfl ?_
              refine b_il (pc' := 168) (a := .inl x2) tb_X6_rewritten r_X6_rewritten_166 rfl rfl rfl ?_
              refine b_ic (pc' := 169) (1) tb_X6_rewritten r_X6_rewritten_168 rfl rfl ?_
              obtain ⟨v32, M31, ov32, h⟩ := cI_in h
              refine b_vI (pc' := 172) tb_X6_rewritten r_X6_rewritten_169 tb_X2_partAt mo_X2_partAt (by decide) rfl rfl ov32 (fun r hr => snd_X2_partAt hr) (by decide) rfl rfl rfl ?_
              obtain ⟨v34, M33, ov34, h⟩ := cI_in h
              refine b_vI (pc' := 175) tb_X6_rewritten r_X6_rewritten_172 tb_X8_rebuild mo_X8_rebuild (by decide) rfl rfl ov34 (fun r hr => snd_X8_rebuild _ hr) (by decide) rfl rfl rfl ?_
              refine b_st (pc' := 177) [(10, .inl v34), (9, .inl v15), (8, .inl 0), (7, .inl v10), (6, .inl v9), (5, .inl s7), (0, .inr (.inr (.inl 40))), (1, .inl a1), (2, .inl a2), (3, .inl v1), (4, .inl x2)] tb_X6_rewritten r_X6_rewritten_175 rfl rfl rfl rfl ?_
              refine b_il (pc' := 179) (a := .inl v34) tb_X6_rewritten r_X6_rewritten_177 rfl rfl rfl ?_
              obtain ⟨c1, h⟩ := bK_t h
              refine b_ifT (t := 187) tb_X6_rewritten r_X6_rewritten_179 rfl ((zGe_c _).symm.trans c1) ?_
              refine b_aln (pc' := 188) (a := .inr (.inr (.inl 40))) tb_X6_rewritten r_X6_rewritten_187 rfl rfl rfl ?_
              refine b_gr (pc' := 191) tb_X6_rewritten r_X6_rewritten_188 tF_40_6_0 rfl ?_
              refine b_iln (pc' := 192) (a := .inl v1) tb_X6_rewritten r_X6_rewritten_191 rfl rfl rfl ?_
              refine b_il (pc' := 194) (a := .inl v34) tb_X6_rewritten r_X6_rewritten_192 rfl rfl rfl ?_
              obtain ⟨v38, M37, ov38, h⟩ := cI_in h
              refine b_vI (pc' := 197) tb_X6_rewritten r_X6_rewritten_194 tb_X8_settle mo_X8_settle (by decide) rfl rfl ov38 (fun r hr => snd_X8_settle hr) (by decide) rfl rfl rfl ?_
              exact b_ri tb_X6_rewritten r_X6_rewritten_197 rfl (sj h).symm
          · refine b_gu (pc' := 76) tb_X6_rewritten r_X6_rewritten_73 tF_19_3_14 rfl ?_
            refine b_st (pc' := 78) [(7, .inr (.inr (.inr (.inr 1)))), (6, .inl v9), (5, .inl s7), (0, .inr (.inr (.inl 40))), (1, .inl a1), (2, .inl a2), (3, .inl v1), (4, .inl x2)] tb_X6_rewritten r_X6_rewritten_76 rfl rfl rfl rfl ?_
            refine b_ic (pc' := 79) (0) tb_X6_rewritten r_X6_rewritten_78 rfl rfl ?_
            refine b_st (pc' := 81) [(8, .inl 0), (7, .inr (.inr (.inr (.inr 1)))), (6, .inl v9), (5, .inl s7), (0, .inr (.inr (.inl 40))), (1, .inl a1), (2, .inl a2), (3, .inl v1), (4, .inl x2)] tb_X6_rewritten r_X6_rewritten_79 rfl rfl rfl rfl ?_
            refine b_il (pc' := 83) (a := .inl 0) tb_X6_rewritten r_X6_rewritten_81 rfl rfl rfl ?_
            refine b_il (pc' := 85) (a := .inl s7) tb_X6_rewritten r_X6_rewritten_83 rfl rfl rfl ?_
            obtain ⟨c1, h⟩ := bK_t h
            refine b_icT (t := 214) tb_X6_rewritten r_X6_rewritten_85 rfl ((nGe_c _ _).symm.trans c1) ?_
            refine b_aln (pc' := 215) (a := .inr (.inr (.inl 40))) tb_X6_rewritten r_X6_rewritten_214 rfl rfl rfl ?_
            refine b_gr (pc' := 218) tb_X6_rewritten r_X6_rewritten_215 tF_40_6_0 rfl ?_
            refine b_iln (pc' := 219) (a := .inl v1) tb_X6_rewritten r_X6_rewritten_218 rfl rfl rfl ?_
            obtain ⟨M42, cM42, h⟩ := pK_in h
            refine b_pi (pc' := 222) tb_X6_rewritten r_X6_rewritten_219 rfl tF_11_8_2 cM42 rfl ?_
            refine b_inc (pc' := 225) (v := x2) (n := 1) [(4, .inl (oAdd x2 1)), (8, .inl 0), (7, .inr (.inr (.inr (.inr 1)))), (6, .inl v9), (5, .inl s7), (0, .inr (.inr (.inl 40))), (1, .inl a1), (2, .inl a2), (3, .inl v1)] tb_X6_rewritten r_X6_rewritten_222 rfl rfl rfl rfl rfl ?_
            obtain ⟨v43, ev43, h⟩ := fK_v h
            rw [ev43]
            refine b_goto (pc' := 11) tb_X6_rewritten r_X6_rewritten_225 rfl ?_
            refine b_sub9 [(0, .inr (.inr (.inl 40))), (1, .inl a1), (2, .inl a2), (3, .inl v1), (4, .inl v43)] ⟨rfl, rfl, rfl, rfl, rfl, trivial⟩ ?_
            exact hj11 _ _ h
        · refine b_gu (pc' := 67) tb_X6_rewritten r_X6_rewritten_64 tF_19_3_13 rfl ?_
          refine b_st (pc' := 69) [(6, .inr (.inr (.inr (.inr 1)))), (5, .inl s7), (0, .inr (.inr (.inl 40))), (1, .inl a1), (2, .inl a2), (3, .inl v1), (4, .inl x2)] tb_X6_rewritten r_X6_rewritten_67 rfl rfl rfl rfl ?_
          refine b_aln (pc' := 70) (a := .inr (.inr (.inl 40))) tb_X6_rewritten r_X6_rewritten_69 rfl rfl rfl ?_
          refine b_gr (pc' := 73) tb_X6_rewritten r_X6_rewritten_70 tF_40_6_2 rfl ?_
          rcases uK_in h with ⟨v44, cv44, h⟩ | h
          · refine b_gi (pc' := 76) tb_X6_rewritten r_X6_rewritten_73 tF_19_3_14 cv44 rfl ?_
            refine b_st (pc' := 78) [(7, .inl v44), (6, .inr (.inr (.inr (.inr 1)))), (5, .inl s7), (0, .inr (.inr (.inl 40))), (1, .inl a1), (2, .inl a2), (3, .inl v1), (4, .inl x2)] tb_X6_rewritten r_X6_rewritten_76 rfl rfl rfl rfl ?_
            refine b_ic (pc' := 79) (0) tb_X6_rewritten r_X6_rewritten_78 rfl rfl ?_
            refine b_st (pc' := 81) [(8, .inl 0), (7, .inl v44), (6, .inr (.inr (.inr (.inr 1)))), (5, .inl s7), (0, .inr (.inr (.inl 40))), (1, .inl a1), (2, .inl a2), (3, .inl v1), (4, .inl x2)] tb_X6_rewritten r_X6_rewritten_79 rfl rfl rfl rfl ?_
            refine b_il (pc' := 83) (a := .inl 0) tb_X6_rewritten r_X6_rewritten_81 rfl rfl rfl ?_
            refine b_il (pc' := 85) (a := .inl s7) tb_X6_rewritten r_X6_rewritten_83 rfl rfl rfl ?_
            obtain ⟨c1, h⟩ := bK_t h
            refine b_icT (t := 214) tb_X6_rewritten r_X6_rewritten_85 rfl ((nGe_c _ _).symm.trans c1) ?_
            refine b_aln (pc' := 215) (a := .inr (.inr (.inl 40))) tb_X6_rewritten r_X6_rewritten_214 rfl rfl rfl ?_
            refine b_gr (pc' := 218) tb_X6_rewritten r_X6_rewritten_215 tF_40_6_0 rfl ?_
            refine b_iln (pc' := 219) (a := .inl v1) tb_X6_rewritten r_X6_rewritten_218 rfl rfl rfl ?_
            obtain ⟨M47, cM47, h⟩ := pK_in h
            refine b_pi (pc' := 222) tb_X6_rewritten r_X6_rewritten_219 rfl tF_11_8_2 cM47 rfl ?_
            refine b_inc (pc' := 225) (v := x2) (n := 1) [(4, .inl (oAdd x2 1)), (8, .inl 0), (7, .inl v44), (6, .inr (.inr (.inr (.inr 1)))), (5, .inl s7), (0, .inr (.inr (.inl 40))), (1, .inl a1), (2, .inl a2), (3, .inl v1)] tb_X6_rewritten r_X6_rewritten_222 rfl rfl rfl rfl rfl ?_
            obtain ⟨v48, ev48, h⟩ := fK_v h
            rw [ev48]
            refine b_goto (pc' := 11) tb_X6_rewritten r_X6_rewritten_225 rfl ?_
            refine b_sub9 [(0, .inr (.inr (.inl 40))), (1, .inl a1), (2, .inl a2), (3, .inl v1), (4, .inl v48)] ⟨rfl, rfl, rfl, rfl, rfl, trivial⟩ ?_
            exact hj11 _ _ h
          · refine b_gu (pc' := 76) tb_X6_rewritten r_X6_rewritten_73 tF_19_3_14 rfl ?_
            refine b_st (pc' := 78) [(7, .inr (.inr (.inr (.inr 1)))), (6, .inr (.inr (.inr (.inr 1)))), (5, .inl s7), (0, .inr (.inr (.inl 40))), (1, .inl a1), (2, .inl a2), (3, .inl v1), (4, .inl x2)] tb_X6_rewritten r_X6_rewritten_76 rfl rfl rfl rfl ?_
            refine b_ic (pc' := 79) (0) tb_X6_rewritten r_X6_rewritten_78 rfl rfl ?_
            refine b_st (pc' := 81) [(8, .inl 0), (7, .inr (.inr (.inr (.inr 1)))), (6, .inr (.inr (.inr (.inr 1)))), (5, .inl s7), (0, .inr (.inr (.inl 40))), (1, .inl a1), (2, .inl a2), (3, .inl v1), (4, .inl x2)] tb_X6_rewritten r_X6_rewritten_79 rfl rfl rfl rfl ?_
            refine b_il (pc' := 83) (a := .inl 0) tb_X6_rewritten r_X6_rewritten_81 rfl rfl rfl ?_
            refine b_il (pc' := 85) (a := .inl s7) tb_X6_rewritten r_X6_rewritten_83 rfl rfl rfl ?_
            obtain ⟨c1, h⟩ := bK_t h
            refine b_icT (t := 214) tb_X6_rewritten r_X6_rewritten_85 rfl ((nGe_c _ _).symm.trans c1) ?_
            refine b_aln (pc' := 215) (a := .inr (.inr (.inl 40))) tb_X6_rewritten r_X6_rewritten_214 rfl rfl rfl ?_
            refine b_gr (pc' := 218) tb_X6_rewritten r_X6_rewritten_215 tF_40_6_0 rfl ?_
            refine b_iln (pc' := 219) (a := .inl v1) tb_X6_rewritten r_X6_rewritten_218 rfl rfl rfl ?_
            obtain ⟨M51, cM51, h⟩ := pK_in h
            refine b_pi (pc' := 222) tb_X6_rewritten r_X6_rewritten_219 rfl tF_11_8_2 cM51 rfl ?_
            refine b_inc (pc' := 225) (v := x2) (n := 1) [(4, .inl (oAdd x2 1)), (8, .inl 0), (7, .inr (.inr (.inr (.inr 1)))), (6, .inr (.inr (.inr (.inr 1)))), (5, .inl s7), (0, .inr (.inr (.inl 40))), (1, .inl a1), (2, .inl a2), (3, .inl v1)] tb_X6_rewritten r_X6_rewritten_222 rfl rfl rfl rfl rfl ?_
            obtain ⟨v52, ev52, h⟩ := fK_v h
            rw [ev52]
            refine b_goto (pc' := 11) tb_X6_rewritten r_X6_rewritten_225 rfl ?_
            refine b_sub9 [(0, .inr (.inr (.inl 40))), (1, .inl a1), (2, .inl a2), (3, .inl v1), (4, .inl v52)] ⟨rfl, rfl, rfl, rfl, rfl, trivial⟩ ?_
            exact hj11 _ _ h
      rcases bK_in h with ⟨c1, h⟩ | ⟨c1, h⟩
      · refine b_ifT (t := 57) tb_X6_rewritten r_X6_rewritten_33 rfl ((zEq_c _).symm.trans c1) ?_
        refine b_ic (pc' := 58) (0) tb_X6_rewritten r_X6_rewritten_57 rfl rfl ?_
        exact hj58 _ _ h
      · refine b_ifF (t := 57) (pc' := 36) tb_X6_rewritten r_X6_rewritten_33 rfl ((zEq_c _).symm.trans c1) rfl ?_
        refine b_aln (pc' := 37) (a := .inr (.inr (.inl 40))) tb_X6_rewritten r_X6_rewritten_36 rfl rfl rfl ?_
        refine b_gr (pc' := 40) tb_X6_rewritten r_X6_rewritten_37 tF_40_6_2 rfl ?_
        refine b_aln (pc' := 41) (a := .inr (.inr (.inl 40))) tb_X6_rewritten r_X6_rewritten_40 rfl rfl rfl ?_
        refine b_gr (pc' := 44) tb_X6_rewritten r_X6_rewritten_41 tF_40_6_1 rfl ?_
        refine b_il (pc' := 46) (a := .inl x2) tb_X6_rewritten r_X6_rewritten_44 rfl rfl rfl ?_
        refine b_ic (pc' := 47) (0) tb_X6_rewritten r_X6_rewritten_46 rfl rfl ?_
        obtain ⟨v54, M53, ov54, h⟩ := cI_in h
        refine b_vI (pc' := 50) tb_X6_rewritten r_X6_rewritten_47 tb_X2_partAt mo_X2_partAt (by decide) rfl rfl ov54 (fun r hr => snd_X2_partAt hr) (by decide) rfl rfl rfl ?_
        refine b_iln (pc' := 51) (a := .inl a1) tb_X6_rewritten r_X6_rewritten_50 rfl rfl rfl ?_
        obtain ⟨v56, M55, ov56, h⟩ := cI_in h
        refine b_vI (pc' := 54) tb_X6_rewritten r_X6_rewritten_51 tb_X3_list mo_X3_list (by decide) rfl rfl ov56 (fun r hr => snd_X3_list hr) (by decide) rfl rfl rfl ?_
        refine b_goto (pc' := 58) tb_X6_rewritten r_X6_rewritten_54 rfl ?_
        exact hj58 _ _ h
  refine b_sub9 [(0, .inr (.inr (.inl 40))), (1, .inl a1), (2, .inl a2), (3, .inl v1), (4, .inl 0)] ⟨rfl, rfl, rfl, rfl, rfl, trivial⟩ ?_
  exact hj11 _ _ h
noncomputable def m_X6_finish (a1 a2 a3 : Nat) (M0 : Nat) : RN :=
  lK M0 2092 11 a1 (fun v1 => lK2 M0 281 780 7500 7656 v1 (fun v2 => bK (nGe v2 32) (cI (m_X10_operatorIn v2 M0) (fun v91 M90 => lK M90 2136 11 a1 (fun v92 => cI (m_X8_putOn v91 v92 M90) (fun v94 M93 => bK (zGe v94) (lK2 M93 281 780 7500 7656 v94 (fun v136 => bK (nGe v136 32) (cI (m_X6_rewritten v94 a3 M93) (fun v158 M157 => bK (nNe v158 4294967294) (bK (nEq v158 4294967295) (lK M157 2103 11 a1 (fun v168 => cI (m_X8_settle v168 v94 M157) (fun v170 M169 => pK M169 2091 a1 (fun M171 => bK (nNe a1 a2) (cV (m_X8_await v170 M171) (fun M172 => some (Nat.add 4294967295 2, M172))) (some (Nat.add v170 2, M171)))))) (lK M157 2103 11 a1 (fun v173 => cI (m_X8_settle v173 v158 M157) (fun v175 M174 => cV (m_X6_look a1 v175 M174) (fun M176 => some (Nat.add 4294967295 2, M176)))))) none)) none)) none)))) none))
set_option maxRecDepth 100000 in
theorem snd_X6_finish {l : Launch} {g : GV} {D : va_G} {sl q : Nat} {a1 a2 a3 M0 : Nat} {r : Nat × Nat} (h : m_X6_finish a1 a2 a3 M0 = some r) : SN l g D sl 188 0 q q 68 0 [(0, .inr (.inr (.inl 40))), (1, .inl a1), (2, .inl a2), (3, .inl a3)] [] M0 (PR r) := by
  unfold m_X6_finish at h
  refine b_aln (pc' := 1) (a := .inr (.inr (.inl 40))) tb_X6_finish r_X6_finish_0 rfl rfl rfl ?_
  refine b_gr (pc' := 4) tb_X6_finish r_X6_finish_1 tF_40_6_5 rfl ?_
  refine b_iln (pc' := 5) (a := .inl a1) tb_X6_finish r_X6_finish_4 rfl rfl rfl ?_
  obtain ⟨v1, dv1, cv1, h⟩ := lK_in h
  refine b_ia (pc' := 6) tb_X6_finish r_X6_finish_5 tA_41 dv1 cv1 rfl ?_
  refine b_st (pc' := 8) [(4, .inl v1), (0, .inr (.inr (.inl 40))), (1, .inl a1), (2, .inl a2), (3, .inl a3)] tb_X6_finish r_X6_finish_6 rfl rfl rfl rfl ?_
  refine b_aln (pc' := 9) (a := .inr (.inr (.inl 40))) tb_X6_finish r_X6_finish_8 rfl rfl rfl ?_
  refine b_gr (pc' := 12) tb_X6_finish r_X6_finish_9 tF_40_6_0 rfl ?_
  refine b_gr (pc' := 15) tb_X6_finish r_X6_finish_12 tF_11_8_1 rfl ?_
  refine b_il (pc' := 17) (a := .inl v1) tb_X6_finish r_X6_finish_15 rfl rfl rfl ?_
  obtain ⟨v2, _, dv2, cv2, h⟩ := lK2_in h
  refine b_ia2 (pc' := 18) tb_X6_finish r_X6_finish_17 tA_12 dv2 cv2 rfl ?_
  refine b_st (pc' := 20) [(5, .inl v2), (4, .inl v1), (0, .inr (.inr (.inl 40))), (1, .inl a1), (2, .inl a2), (3, .inl a3)] tb_X6_finish r_X6_finish_18 rfl rfl rfl rfl ?_
  refine b_il (pc' := 22) (a := .inl v2) tb_X6_finish r_X6_finish_20 rfl rfl rfl ?_
  refine b_bi (pc' := 24) (32) tb_X6_finish r_X6_finish_22 rfl rfl rfl ?_
  obtain ⟨c1, h⟩ := bK_t h
  refine b_icT (t := 32) tb_X6_finish r_X6_finish_24 rfl ((nGe_c _ _).symm.trans c1) ?_
  refine b_aln (pc' := 33) (a := .inr (.inr (.inl 40))) tb_X6_finish r_X6_finish_32 rfl rfl rfl ?_
  refine b_gr (pc' := 36) tb_X6_finish r_X6_finish_33 tF_40_6_0 rfl ?_
  refine b_il (pc' := 38) (a := .inl v2) tb_X6_finish r_X6_finish_36 rfl rfl rfl ?_
  obtain ⟨v91, M90, ov91, h⟩ := cI_in h
  refine b_sI (pc' := 41) tb_X6_finish r_X6_finish_38 tb_X10_operatorIn mo_X10_operatorIn (by decide) rfl rfl ov91 (fun r hr => snd_X10_operatorIn hr) (by decide) rfl rfl rfl ?_
  refine b_aln (pc' := 42) (a := .inr (.inr (.inl 40))) tb_X6_finish r_X6_finish_41 rfl rfl rfl ?_
  refine b_gr (pc' := 45) tb_X6_finish r_X6_finish_42 tF_40_6_9 rfl ?_
  refine b_iln (pc' := 46) (a := .inl a1) tb_X6_finish r_X6_finish_45 rfl rfl rfl ?_
  obtain ⟨v92, dv92, cv92, h⟩ := lK_in h
  refine b_ia (pc' := 47) tb_X6_finish r_X6_finish_46 tA_45 dv92 cv92 rfl ?_
  obtain ⟨v94, M93, ov94, h⟩ := cI_in h
  refine b_vI (pc' := 50) tb_X6_finish r_X6_finish_47 tb_X8_putOn mo_X8_putOn (by decide) rfl rfl ov94 (fun r hr => snd_X8_putOn hr) (by decide) rfl rfl rfl ?_
  refine b_st (pc' := 52) [(6, .inl v94), (5, .inl v2), (4, .inl v1), (0, .inr (.inr (.inl 40))), (1, .inl a1), (2, .inl a2), (3, .inl a3)] tb_X6_finish r_X6_finish_50 rfl rfl rfl rfl ?_
  refine b_il (pc' := 54) (a := .inl v94) tb_X6_finish r_X6_finish_52 rfl rfl rfl ?_
  obtain ⟨c1, h⟩ := bK_t h
  refine b_ifT (t := 60) tb_X6_finish r_X6_finish_54 rfl ((zGe_c _).symm.trans c1) ?_
  refine b_aln (pc' := 61) (a := .inr (.inr (.inl 40))) tb_X6_finish r_X6_finish_60 rfl rfl rfl ?_
  refine b_gr (pc' := 64) tb_X6_finish r_X6_finish_61 tF_40_6_0 rfl ?_
  refine b_gr (pc' := 67) tb_X6_finish r_X6_finish_64 tF_11_8_1 rfl ?_
  refine b_il (pc' := 69) (a := .inl v94) tb_X6_finish r_X6_finish_67 rfl rfl rfl ?_
  obtain ⟨v136, _, dv136, cv136, h⟩ := lK2_in h
  refine b_ia2 (pc' := 70) tb_X6_finish r_X6_finish_69 tA_12 dv136 cv136 rfl ?_
  refine b_bi (pc' := 72) (32) tb_X6_finish r_X6_finish_70 rfl rfl rfl ?_
  obtain ⟨c1, h⟩ := bK_t h
  refine b_icT (t := 79) tb_X6_finish r_X6_finish_72 rfl ((nGe_c _ _).symm.trans c1) ?_
  refine b_aln (pc' := 80) (a := .inr (.inr (.inl 40))) tb_X6_finish r_X6_finish_79 rfl rfl rfl ?_
  refine b_il (pc' := 82) (a := .inl v94) tb_X6_finish r_X6_finish_80 rfl rfl rfl ?_
  refine b_iln (pc' := 83) (a := .inl a3) tb_X6_finish r_X6_finish_82 rfl rfl rfl ?_
  obtain ⟨v158, M157, ov158, h⟩ := cI_in h
  refine b_vI (pc' := 86) tb_X6_finish r_X6_finish_83 tb_X6_rewritten mo_X6_rewritten (by decide) rfl rfl ov158 (fun r hr => snd_X6_rewritten hr) (by decide) rfl rfl rfl ?_
  refine b_st (pc' := 88) [(7, .inl v158), (6, .inl v94), (5, .inl v2), (4, .inl v1), (0, .inr (.inr (.inl 40))), (1, .inl a1), (2, .inl a2), (3, .inl a3)] tb_X6_finish r_X6_finish_86 rfl rfl rfl rfl ?_
  refine b_il (pc' := 90) (a := .inl v158) tb_X6_finish r_X6_finish_88 rfl rfl rfl ?_
  refine b_bi (pc' := 92) (4294967294) tb_X6_finish r_X6_finish_90 rfl rfl rfl ?_
  obtain ⟨c1, h⟩ := bK_t h
  refine b_icT (t := 98) tb_X6_finish r_X6_finish_92 rfl ((nNe_c _ _).symm.trans c1) ?_
  refine b_il (pc' := 100) (a := .inl v158) tb_X6_finish r_X6_finish_98 rfl rfl rfl ?_
  refine b_ic (pc' := 101) (4294967295) tb_X6_finish r_X6_finish_100 rfl rfl ?_
  rcases bK_in h with ⟨c1, h⟩ | ⟨c1, h⟩
  · refine b_icT (t := 126) tb_X6_finish r_X6_finish_101 rfl ((nEq_c _ _).symm.trans c1) ?_
    refine b_aln (pc' := 127) (a := .inr (.inr (.inl 40))) tb_X6_finish r_X6_finish_126 rfl rfl rfl ?_
    refine b_gr (pc' := 130) tb_X6_finish r_X6_finish_127 tF_40_6_0 rfl ?_
    refine b_aln (pc' := 131) (a := .inr (.inr (.inl 40))) tb_X6_finish r_X6_finish_130 rfl rfl rfl ?_
    refine b_gr (pc' := 134) tb_X6_finish r_X6_finish_131 tF_40_6_6 rfl ?_
    refine b_iln (pc' := 135) (a := .inl a1) tb_X6_finish r_X6_finish_134 rfl rfl rfl ?_
    obtain ⟨v168, dv168, cv168, h⟩ := lK_in h
    refine b_ia (pc' := 136) tb_X6_finish r_X6_finish_135 tA_42 dv168 cv168 rfl ?_
    refine b_il (pc' := 138) (a := .inl v94) tb_X6_finish r_X6_finish_136 rfl rfl rfl ?_
    obtain ⟨v170, M169, ov170, h⟩ := cI_in h
    refine b_vI (pc' := 141) tb_X6_finish r_X6_finish_138 tb_X8_settle mo_X8_settle (by decide) rfl rfl ov170 (fun r hr => snd_X8_settle hr) (by decide) rfl rfl rfl ?_
    refine b_st (pc' := 143) [(8, .inl v170), (7, .inl v158), (6, .inl v94), (5, .inl v2), (4, .inl v1), (0, .inr (.inr (.inl 40))), (1, .inl a1), (2, .inl a2), (3, .inl a3)] tb_X6_finish r_X6_finish_141 rfl rfl rfl rfl ?_
    refine b_aln (pc' := 144) (a := .inr (.inr (.inl 40))) tb_X6_finish r_X6_finish_143 rfl rfl rfl ?_
    refine b_iln (pc' := 145) (a := .inl a1) tb_X6_finish r_X6_finish_144 rfl rfl rfl ?_
    obtain ⟨M171, cM171, h⟩ := pK_in h
    refine b_pi (pc' := 148) tb_X6_finish r_X6_finish_145 rfl tF_40_6_4 cM171 rfl ?_
    refine b_iln (pc' := 149) (a := .inl a1) tb_X6_finish r_X6_finish_148 rfl rfl rfl ?_
    refine b_iln (pc' := 150) (a := .inl a2) tb_X6_finish r_X6_finish_149 rfl rfl rfl ?_
    rcases bK_in h with ⟨c1, h⟩ | ⟨c1, h⟩
    · refine b_icT (t := 156) tb_X6_finish r_X6_finish_150 rfl ((nNe_c _ _).symm.trans c1) ?_
      refine b_aln (pc' := 157) (a := .inr (.inr (.inl 40))) tb_X6_finish r_X6_finish_156 rfl rfl rfl ?_
      refine b_gr (pc' := 160) tb_X6_finish r_X6_finish_157 tF_40_6_0 rfl ?_
      refine b_il (pc' := 162) (a := .inl v170) tb_X6_finish r_X6_finish_160 rfl rfl rfl ?_
      obtain ⟨M172, oM172, h⟩ := cV_in h
      refine b_vV (pc' := 165) tb_X6_finish r_X6_finish_162 tb_X8_await mo_X8_await (by decide) rfl rfl oM172 (fun r hr => snd_X8_await hr) (by decide) rfl rfl rfl ?_
      refine b_ic (pc' := 166) (4294967295) tb_X6_finish r_X6_finish_165 rfl rfl ?_
      exact b_ri tb_X6_finish r_X6_finish_166 rfl (sj h).symm
    · refine b_icF (t := 156) (pc' := 153) tb_X6_finish r_X6_finish_150 rfl ((nNe_c _ _).symm.trans c1) rfl ?_
      refine b_il (pc' := 155) (a := .inl v170) tb_X6_finish r_X6_finish_153 rfl rfl rfl ?_
      exact b_ri tb_X6_finish r_X6_finish_155 rfl (sj h).symm
  · refine b_icF (t := 126) (pc' := 104) tb_X6_finish r_X6_finish_101 rfl ((nEq_c _ _).symm.trans c1) rfl ?_
    refine b_aln (pc' := 105) (a := .inr (.inr (.inl 40))) tb_X6_finish r_X6_finish_104 rfl rfl rfl ?_
    refine b_iln (pc' := 106) (a := .inl a1) tb_X6_finish r_X6_finish_105 rfl rfl rfl ?_
    refine b_aln (pc' := 107) (a := .inr (.inr (.inl 40))) tb_X6_finish r_X6_finish_106 rfl rfl rfl ?_
    refine b_gr (pc' := 110) tb_X6_finish r_X6_finish_107 tF_40_6_0 rfl ?_
    refine b_aln (pc' := 111) (a := .inr (.inr (.inl 40))) tb_X6_finish r_X6_finish_110 rfl rfl rfl ?_
    refine b_gr (pc' := 114) tb_X6_finish r_X6_finish_111 tF_40_6_6 rfl ?_
    refine b_iln (pc' := 115) (a := .inl a1) tb_X6_finish r_X6_finish_114 rfl rfl rfl ?_
    obtain ⟨v173, dv173, cv173, h⟩ := lK_in h
    refine b_ia (pc' := 116) tb_X6_finish r_X6_finish_115 tA_42 dv173 cv173 rfl ?_
    refine b_il (pc' := 118) (a := .inl v158) tb_X6_finish r_X6_finish_116 rfl rfl rfl ?_
    obtain ⟨v175, M174, ov175, h⟩ := cI_in h
    refine b_vI (pc' := 121) tb_X6_finish r_X6_finish_118 tb_X8_settle mo_X8_settle (by decide) rfl rfl ov175 (fun r hr => snd_X8_settle hr) (by decide) rfl rfl rfl ?_
    obtain ⟨M176, oM176, h⟩ := cV_in h
    refine b_vV (pc' := 124) tb_X6_finish r_X6_finish_121 tb_X6_look mo_X6_look (by decide) rfl rfl oM176 (fun r hr => snd_X6_look hr) (by decide) rfl rfl rfl ?_
    refine b_ic (pc' := 125) (4294967295) tb_X6_finish r_X6_finish_124 rfl rfl ?_
    exact b_ri tb_X6_finish r_X6_finish_125 rfl (sj h).symm
