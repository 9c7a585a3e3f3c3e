/-! more of them -/
noncomputable def m_X3_solve (d : Nat) : Nat → Nat → RN := @Nat.rec (fun _ => Nat → Nat → RN) (fun _ _ => none) (fun _ ih a1 M0 =>
  bK (nNe a1 4294967295) (rK M0 1255 (fun v1 => bK (nLe v1 56) (lK M0 1330 7 a1 (fun v10 => jn (fun (M11 : Nat) => pK M11 1255 v1 (fun M12 => some (1, M12))) (fun (j71 : ( Nat → RN)) => bK (zLe v10) (lK M0 1311 7 a1 (fun v13 => lK2 M0 281 780 7500 7656 v13 (fun v14 => bK (nGe v14 32) (cV (m_X3_meet ih a1 M0) (fun M15 => j71 M15)) (cV (m_X3_bind ih a1 M0) (fun M16 => j71 M16))))) (cV (m_X3_share ih a1 M0) (fun M17 => j71 M17))))) none)) (cV (m_X3_noteMatch M0) (fun M18 => some (1, M18)))) d
set_option maxRecDepth 100000 in
theorem snd_X3_solve {l : Launch} {g : GV} {D : va_G} {sl q : Nat} (d : Nat) {a1 M0 : Nat} {r : Nat × Nat} (h : m_X3_solve d a1 M0 = some r) : SN l g D sl (3 * d + 5) 0 q q 49 0 [(0, .inr (.inr (.inl 19))), (1, .inl a1)] [] M0 (PR r) := by
  induction d generalizing a1 M0 r with
  | zero => cases h
  | succ d ih0 =>
    have hih : ∀ (a1 M0 : Nat) (r : Nat × Nat), m_X3_solve d a1 M0 = some r → SN l g D sl (3 * d + 5) 0 q q 49 0 [(0, .inr (.inr (.inl 19))), (1, .inl a1)] [] M0 (PR r) := fun a1 M0 r h => ih0 h
    clear ih0
    refine SN.hup (h := (3 * d + 7 + 1)) (by omega) ?_
    generalize eih : m_X3_solve d = ih at hih
    have h : (fun (ih : Nat → Nat → RN) => (fun (a1 M0 : Nat) =>
  bK (nNe a1 4294967295) (rK M0 1255 (fun v1 => bK (nLe v1 56) (lK M0 1330 7 a1 (fun v10 => jn (fun (M11 : Nat) => pK M11 1255 v1 (fun M12 => some (1, M12))) (fun (j71 : ( Nat → RN)) => bK (zLe v10) (lK M0 1311 7 a1 (fun v13 => lK2 M0 281 780 7500 7656 v13 (fun v14 => bK (nGe v14 32) (cV (m_X3_meet ih a1 M0) (fun M15 => j71 M15)) (cV (m_X3_bind ih a1 M0) (fun M16 => j71 M16))))) (cV (m_X3_share ih a1 M0) (fun M17 => j71 M17))))) none)) (cV (m_X3_noteMatch M0) (fun M18 => some (1, M18))))) ih a1 M0 = some r := by rw [← eih]; exact h
    clear eih
    refine b_iln (pc' := 1) (a := .inl a1) tb_X3_solve r_X3_solve_0 rfl rfl rfl ?_
    refine b_ic (pc' := 2) (4294967295) tb_X3_solve r_X3_solve_1 rfl rfl ?_
    rcases bK_in h with ⟨c1, h⟩ | ⟨c1, h⟩
    · refine b_icT (t := 10) tb_X3_solve r_X3_solve_2 rfl ((nNe_c _ _).symm.trans c1) ?_
      refine b_aln (pc' := 11) (a := .inr (.inr (.inl 19))) tb_X3_solve r_X3_solve_10 rfl rfl rfl ?_
      obtain ⟨v1, cv1, h⟩ := rK_in h
      refine b_gi (pc' := 14) tb_X3_solve r_X3_solve_11 tF_19_3_12 cv1 rfl ?_
      refine b_stn (pc' := 15) [(2, .inl v1), (0, .inr (.inr (.inl 19))), (1, .inl a1)] tb_X3_solve r_X3_solve_14 rfl rfl rfl rfl ?_
      refine b_iln (pc' := 16) (a := .inl v1) tb_X3_solve r_X3_solve_15 rfl rfl rfl ?_
      refine b_bi (pc' := 18) (56) tb_X3_solve r_X3_solve_16 rfl rfl rfl ?_
      obtain ⟨c1, h⟩ := bK_t h
      refine b_icT (t := 22) tb_X3_solve r_X3_solve_18 rfl ((nLe_c _ _).symm.trans c1) ?_
      refine b_aln (pc' := 23) (a := .inr (.inr (.inl 19))) tb_X3_solve r_X3_solve_22 rfl rfl rfl ?_
      refine b_gr (pc' := 26) tb_X3_solve r_X3_solve_23 tF_19_3_9 rfl ?_
      refine b_iln (pc' := 27) (a := .inl a1) tb_X3_solve r_X3_solve_26 rfl rfl rfl ?_
      obtain ⟨v10, dv10, cv10, h⟩ := lK_in h
      refine b_ia (pc' := 28) tb_X3_solve r_X3_solve_27 tA_25 dv10 cv10 rfl ?_
      refine jn_in (R := fun (j71 : ( Nat → RN)) => ∀ (M11 : Nat), j71 M11 = some r → SN l g D sl (3 * d + 7 + 1) 0 q q 49 71 [(0, .inr (.inr (.inl 19))), (2, .inl v1)] [] M11 (PR r)) h (fun M11 h => ?_) (fun j71 hj71 h => ?_)
      · skip
        refine b_aln (pc' := 72) (a := .inr (.inr (.inl 19))) tb_X3_solve r_X3_solve_71 rfl rfl rfl ?_
        refine b_iln (pc' := 73) (a := .inl v1) tb_X3_solve r_X3_solve_72 rfl rfl rfl ?_
        obtain ⟨M12, cM12, h⟩ := pK_in h
        refine b_pi (pc' := 76) tb_X3_solve r_X3_solve_73 rfl tF_19_3_12 cM12 rfl ?_
        exact b_vo tb_X3_solve r_X3_solve_76 (sj h).symm
      rcases bK_in h with ⟨c1, h⟩ | ⟨c1, h⟩
      · refine b_ifT (t := 39) tb_X3_solve r_X3_solve_28 rfl ((zLe_c _).symm.trans c1) ?_
        refine b_aln (pc' := 40) (a := .inr (.inr (.inl 19))) tb_X3_solve r_X3_solve_39 rfl rfl rfl ?_
        refine b_gr (pc' := 43) tb_X3_solve r_X3_solve_40 tF_19_3_0 rfl ?_
        refine b_gr (pc' := 46) tb_X3_solve r_X3_solve_43 tF_11_8_1 rfl ?_
        refine b_aln (pc' := 47) (a := .inr (.inr (.inl 19))) tb_X3_solve r_X3_solve_46 rfl rfl rfl ?_
        refine b_gr (pc' := 50) tb_X3_solve r_X3_solve_47 tF_19_3_6 rfl ?_
        refine b_iln (pc' := 51) (a := .inl a1) tb_X3_solve r_X3_solve_50 rfl rfl rfl ?_
        obtain ⟨v13, dv13, cv13, h⟩ := lK_in h
        refine b_ia (pc' := 52) tb_X3_solve r_X3_solve_51 tA_22 dv13 cv13 rfl ?_
        obtain ⟨v14, _, dv14, cv14, h⟩ := lK2_in h
        refine b_ia2 (pc' := 53) tb_X3_solve r_X3_solve_52 tA_12 dv14 cv14 rfl ?_
        refine b_bi (pc' := 55) (32) tb_X3_solve r_X3_solve_53 rfl rfl rfl ?_
        rcases bK_in h with ⟨c1, h⟩ | ⟨c1, h⟩
        · refine b_icT (t := 66) tb_X3_solve r_X3_solve_55 rfl ((nGe_c _ _).symm.trans c1) ?_
          refine b_aln (pc' := 67) (a := .inr (.inr (.inl 19))) tb_X3_solve r_X3_solve_66 rfl rfl rfl ?_
          refine b_iln (pc' := 68) (a := .inl a1) tb_X3_solve r_X3_solve_67 rfl rfl rfl ?_
          obtain ⟨M15, oM15, h⟩ := cV_in h
          refine b_vV (pc' := 71) tb_X3_solve r_X3_solve_68 tb_X3_meet mo_X3_meet (by decide) rfl rfl oM15 (fun r hr => snd_X3_meet (sv := ih) hih (by omega) hr) (by omega) rfl rfl rfl ?_
          refine b_sub9 [(0, .inr (.inr (.inl 19))), (2, .inl v1)] ⟨rfl, rfl, trivial⟩ ?_
          exact hj71 _ h
        · refine b_icF (t := 66) (pc' := 58) tb_X3_solve r_X3_solve_55 rfl ((nGe_c _ _).symm.trans c1) rfl ?_
          refine b_aln (pc' := 59) (a := .inr (.inr (.inl 19))) tb_X3_solve r_X3_solve_58 rfl rfl rfl ?_
          refine b_iln (pc' := 60) (a := .inl a1) tb_X3_solve r_X3_solve_59 rfl rfl rfl ?_
          obtain ⟨M16, oM16, h⟩ := cV_in h
          refine b_vV (pc' := 63) tb_X3_solve r_X3_solve_60 tb_X3_bind mo_X3_bind (by decide) rfl rfl oM16 (fun r hr => snd_X3_bind (sv := ih) hih (by omega) hr) (by omega) rfl rfl rfl ?_
          refine b_goto (pc' := 71) tb_X3_solve r_X3_solve_63 rfl ?_
          refine b_sub9 [(0, .inr (.inr (.inl 19))), (2, .inl v1)] ⟨rfl, rfl, trivial⟩ ?_
          exact hj71 _ h
      · refine b_ifF (t := 39) (pc' := 31) tb_X3_solve r_X3_solve_28 rfl ((zLe_c _).symm.trans c1) rfl ?_
        refine b_aln (pc' := 32) (a := .inr (.inr (.inl 19))) tb_X3_solve r_X3_solve_31 rfl rfl rfl ?_
        refine b_iln (pc' := 33) (a := .inl a1) tb_X3_solve r_X3_solve_32 rfl rfl rfl ?_
        obtain ⟨M17, oM17, h⟩ := cV_in h
        refine b_vV (pc' := 36) tb_X3_solve r_X3_solve_33 tb_X3_share mo_X3_share (by decide) rfl rfl oM17 (fun r hr => snd_X3_share (sv := ih) hih (by omega) hr) (by omega) rfl rfl rfl ?_
        refine b_goto (pc' := 71) tb_X3_solve r_X3_solve_36 rfl ?_
        refine b_sub9 [(0, .inr (.inr (.inl 19))), (2, .inl v1)] ⟨rfl, rfl, trivial⟩ ?_
        exact hj71 _ h
    · refine b_icF (t := 10) (pc' := 5) tb_X3_solve r_X3_solve_2 rfl ((nNe_c _ _).symm.trans c1) rfl ?_
      refine b_aln (pc' := 6) (a := .inr (.inr (.inl 19))) tb_X3_solve r_X3_solve_5 rfl rfl rfl ?_
      obtain ⟨M18, oM18, h⟩ := cV_in h
      refine b_vV (pc' := 9) tb_X3_solve r_X3_solve_6 tb_X3_noteMatch mo_X3_noteMatch (by decide) rfl rfl oM18 (fun r hr => snd_X3_noteMatch hr) (by omega) rfl rfl rfl ?_
      exact b_vo tb_X3_solve r_X3_solve_9 (sj h).symm
noncomputable def m_X3_list (a1 a2 : Nat) (M0 : Nat) : RN :=
  cV (m_X4_collect a2 M0) (fun M1 => cV (m_X4_addParts M1) (fun M2 => cV (m_X4_addIdentities M2) (fun M3 => cV (m_X4_rankAll M3) (fun M4 => lp (fun _ _ => none) (fun (j31 : (Nat →  Nat → RN)) => fun (x5 : Nat) (M6 : Nat) => rK M6 1350 (fun v7 => bK (nGe x5 v7) (rK M6 1351 (fun v8 => pK M6 1257 v8 (fun M9 => rK M9 276 (fun v10 => pK M9 1256 v10 (fun M11 => pK M11 1258 0 (fun M12 => pK M12 1255 0 (fun M13 => cI (m_X8_variablesAt a1 M13) (fun v15 M14 => pK M14 1254 v15 (fun M16 => cV (m_J7_fill_53178_21 4294967295 M16) (fun M17 => lK M17 1517 33 0 (fun v18 => cI (m_X3_addDuty a1 v18 4294967295 M17) (fun v20 M19 => cV (m_X3_solve 60 v20 M19) (fun M21 => rK M21 1256 (fun v22 => rK M21 1258 (fun v23 => pK M21 276 (oAdd v22 v23) (fun M24 => rK M24 1258 (fun v25 => some (Nat.add v25 2, M24)))))))))))))))))) (lK M6 1550 18 x5 (fun v26 => lK M6 1352 33 v26 (fun v27 => cI (m_X8_sortAt 30 v27 M6) (fun v29 M28 => sK M28 1259 32 v26 v29 (fun M30 => fK (oAdd x5 1) (fun v31 => j31 v31 M30)))))))) (fun (j31 : (Nat →  Nat → RN)) => j31 0 M4)))))
set_option maxRecDepth 100000 in
theorem snd_X3_list {l : Launch} {g : GV} {D : va_G} {sl q : Nat} {a1 a2 M0 : Nat} {r : Nat × Nat} (h : m_X3_list a1 a2 M0 = some r) : SN l g D sl 186 0 q q 44 0 [(0, .inr (.inr (.inl 19))), (1, .inl a1), (2, .inl a2)] [] M0 (PR r) := by
  unfold m_X3_list at h
  refine b_aln (pc' := 1) (a := .inr (.inr (.inl 19))) tb_X3_list r_X3_list_0 rfl rfl rfl ?_
  refine b_gr (pc' := 4) tb_X3_list r_X3_list_1 tF_19_3_2 rfl ?_
  refine b_iln (pc' := 5) (a := .inl a2) tb_X3_list r_X3_list_4 rfl rfl rfl ?_
  obtain ⟨M1, oM1, h⟩ := cV_in h
  refine b_vV (pc' := 8) tb_X3_list r_X3_list_5 tb_X4_collect mo_X4_collect (by decide) rfl rfl oM1 (fun r hr => snd_X4_collect hr) (by decide) rfl rfl rfl ?_
  refine b_aln (pc' := 9) (a := .inr (.inr (.inl 19))) tb_X3_list r_X3_list_8 rfl rfl rfl ?_
  refine b_gr (pc' := 12) tb_X3_list r_X3_list_9 tF_19_3_2 rfl ?_
  obtain ⟨M2, oM2, h⟩ := cV_in h
  refine b_vV (pc' := 15) tb_X3_list r_X3_list_12 tb_X4_addParts mo_X4_addParts (by decide) rfl rfl oM2 (fun r hr => snd_X4_addParts hr) (by decide) rfl rfl rfl ?_
  refine b_aln (pc' := 16) (a := .inr (.inr (.inl 19))) tb_X3_list r_X3_list_15 rfl rfl rfl ?_
  refine b_gr (pc' := 19) tb_X3_list r_X3_list_16 tF_19_3_2 rfl ?_
  obtain ⟨M3, oM3, h⟩ := cV_in h
  refine b_vV (pc' := 22) tb_X3_list r_X3_list_19 tb_X4_addIdentities mo_X4_addIdentities (by decide) rfl rfl oM3 (fun r hr => snd_X4_addIdentities hr) (by decide) rfl rfl rfl ?_
  refine b_aln (pc' := 23) (a := .inr (.inr (.inl 19))) tb_X3_list r_X3_list_22 rfl rfl rfl ?_
  refine b_gr (pc' := 26) tb_X3_list r_X3_list_23 tF_19_3_2 rfl ?_
  obtain ⟨M4, oM4, h⟩ := cV_in h
  refine b_vV (pc' := 29) tb_X3_list r_X3_list_26 tb_X4_rankAll mo_X4_rankAll (by decide) rfl rfl oM4 (fun r hr => snd_X4_rankAll hr) (by decide) rfl rfl rfl ?_
  refine b_ic (pc' := 30) (0) tb_X3_list r_X3_list_29 rfl rfl ?_
  refine b_stn (pc' := 31) [(3, .inl 0), (0, .inr (.inr (.inl 19))), (1, .inl a1), (2, .inl a2)] tb_X3_list r_X3_list_30 rfl rfl rfl rfl ?_
  refine lp_in (R := fun (j31 : (Nat → Nat → RN)) => ∀ (x5 M6 : Nat), j31 x5 M6 = some r → SN l g D sl 186 0 q q 44 31 [(0, .inr (.inr (.inl 19))), (1, .inl a1), (3, .inl x5)] [] M6 (PR r)) h (fun _ _ h => by cases h) (fun j31 hj31 => ?_) (fun j31 hj31 h => ?_)
  · intro x5 M6 h
    refine b_iln (pc' := 32) (a := .inl x5) tb_X3_list r_X3_list_31 rfl rfl rfl ?_
    refine b_aln (pc' := 33) (a := .inr (.inr (.inl 19))) tb_X3_list r_X3_list_32 rfl rfl rfl ?_
    refine b_gr (pc' := 36) tb_X3_list r_X3_list_33 tF_19_3_2 rfl ?_
    obtain ⟨v7, cv7, h⟩ := rK_in h
    refine b_gi (pc' := 39) tb_X3_list r_X3_list_36 tF_28_4_9 cv7 rfl ?_
    rcases bK_in h with ⟨c1, h⟩ | ⟨c1, h⟩
    · refine b_icT (t := 83) tb_X3_list r_X3_list_39 rfl ((nGe_c _ _).symm.trans c1) ?_
      refine b_aln (pc' := 84) (a := .inr (.inr (.inl 19))) tb_X3_list r_X3_list_83 rfl rfl rfl ?_
      refine b_aln (pc' := 85) (a := .inr (.inr (.inl 19))) tb_X3_list r_X3_list_84 rfl rfl rfl ?_
      refine b_gr (pc' := 88) tb_X3_list r_X3_list_85 tF_19_3_2 rfl ?_
      obtain ⟨v8, cv8, h⟩ := rK_in h
      refine b_gi (pc' := 91) tb_X3_list r_X3_list_88 tF_28_4_15 cv8 rfl ?_
      obtain ⟨M9, cM9, h⟩ := pK_in h
      refine b_pi (pc' := 94) tb_X3_list r_X3_list_91 rfl tF_19_3_14 cM9 rfl ?_
      refine b_aln (pc' := 95) (a := .inr (.inr (.inl 19))) tb_X3_list r_X3_list_94 rfl rfl rfl ?_
      refine b_aln (pc' := 96) (a := .inr (.inr (.inl 19))) tb_X3_list r_X3_list_95 rfl rfl rfl ?_
      refine b_gr (pc' := 99) tb_X3_list r_X3_list_96 tF_19_3_0 rfl ?_
      obtain ⟨v10, cv10, h⟩ := rK_in h
      refine b_gi (pc' := 102) tb_X3_list r_X3_list_99 tF_11_8_2 cv10 rfl ?_
      obtain ⟨M11, cM11, h⟩ := pK_in h
      refine b_pi (pc' := 105) tb_X3_list r_X3_list_102 rfl tF_19_3_13 cM11 rfl ?_
      refine b_aln (pc' := 106) (a := .inr (.inr (.inl 19))) tb_X3_list r_X3_list_105 rfl rfl rfl ?_
      refine b_ic (pc' := 107) (0) tb_X3_list r_X3_list_106 rfl rfl ?_
      obtain ⟨M12, cM12, h⟩ := pK_in h
      refine b_pi (pc' := 110) tb_X3_list r_X3_list_107 rfl tF_19_3_15 cM12 rfl ?_
      refine b_aln (pc' := 111) (a := .inr (.inr (.inl 19))) tb_X3_list r_X3_list_110 rfl rfl rfl ?_
      refine b_ic (pc' := 112) (0) tb_X3_list r_X3_list_111 rfl rfl ?_
      obtain ⟨M13, cM13, h⟩ := pK_in h
      refine b_pi (pc' := 115) tb_X3_list r_X3_list_112 rfl tF_19_3_12 cM13 rfl ?_
      refine b_aln (pc' := 116) (a := .inr (.inr (.inl 19))) tb_X3_list r_X3_list_115 rfl rfl rfl ?_
      refine b_aln (pc' := 117) (a := .inr (.inr (.inl 19))) tb_X3_list r_X3_list_116 rfl rfl rfl ?_
      refine b_gr (pc' := 120) tb_X3_list r_X3_list_117 tF_19_3_0 rfl ?_
      refine b_iln (pc' := 121) (a := .inl a1) tb_X3_list r_X3_list_120 rfl rfl rfl ?_
      obtain ⟨v15, M14, ov15, h⟩ := cI_in h
      refine b_vI (pc' := 124) tb_X3_list r_X3_list_121 tb_X8_variablesAt mo_X8_variablesAt (by decide) rfl rfl ov15 (fun r hr => snd_X8_variablesAt hr) (by decide) rfl rfl rfl ?_
      obtain ⟨M16, cM16, h⟩ := pK_in h
      refine b_pi (pc' := 127) tb_X3_list r_X3_list_124 rfl tF_19_3_5 cM16 rfl ?_
      refine b_aln (pc' := 128) (a := .inr (.inr (.inl 19))) tb_X3_list r_X3_list_127 rfl rfl rfl ?_
      refine b_gr (pc' := 131) tb_X3_list r_X3_list_128 tF_19_3_4 rfl ?_
      refine b_ic (pc' := 132) (4294967295) tb_X3_list r_X3_list_131 rfl rfl ?_
      obtain ⟨M17, oM17, h⟩ := cV_in h
      refine b_sV (pc' := 135) tb_X3_list r_X3_list_132 tb_J7_fill_53178 mo_J7_fill_53178 (by decide) rfl rfl oM17 (fun r hr => snd_J7_fill_53178_21 hr) (by decide) rfl rfl rfl ?_
      refine b_aln (pc' := 136) (a := .inr (.inr (.inl 19))) tb_X3_list r_X3_list_135 rfl rfl rfl ?_
      refine b_aln (pc' := 137) (a := .inr (.inr (.inl 19))) tb_X3_list r_X3_list_136 rfl rfl rfl ?_
      refine b_iln (pc' := 138) (a := .inl a1) tb_X3_list r_X3_list_137 rfl rfl rfl ?_
      refine b_aln (pc' := 139) (a := .inr (.inr (.inl 19))) tb_X3_list r_X3_list_138 rfl rfl rfl ?_
      refine b_gr (pc' := 142) tb_X3_list r_X3_list_139 tF_19_3_2 rfl ?_
      refine b_gr (pc' := 145) tb_X3_list r_X3_list_142 tF_28_4_8 rfl ?_
      refine b_ic (pc' := 146) (0) tb_X3_list r_X3_list_145 rfl rfl ?_
      obtain ⟨v18, dv18, cv18, h⟩ := lK_in h
      refine b_ia (pc' := 147) tb_X3_list r_X3_list_146 tA_34 dv18 cv18 rfl ?_
      refine b_ic (pc' := 148) (4294967295) tb_X3_list r_X3_list_147 rfl rfl ?_
      obtain ⟨v20, M19, ov20, h⟩ := cI_in h
      refine b_vI (pc' := 151) tb_X3_list r_X3_list_148 tb_X3_addDuty mo_X3_addDuty (by decide) rfl rfl ov20 (fun r hr => snd_X3_addDuty hr) (by decide) rfl rfl rfl ?_
      obtain ⟨M21, oM21, h⟩ := cV_in h
      refine b_vV (pc' := 154) tb_X3_list r_X3_list_151 tb_X3_solve mo_X3_solve (by decide) rfl rfl oM21 (fun r hr => snd_X3_solve _ hr) (by decide) rfl rfl rfl ?_
      refine b_aln (pc' := 155) (a := .inr (.inr (.inl 19))) tb_X3_list r_X3_list_154 rfl rfl rfl ?_
      refine b_gr (pc' := 158) tb_X3_list r_X3_list_155 tF_19_3_0 rfl ?_
      refine b_aln (pc' := 159) (a := .inr (.inr (.inl 19))) tb_X3_list r_X3_list_158 rfl rfl rfl ?_
      obtain ⟨v22, cv22, h⟩ := rK_in h
      refine b_gi (pc' := 162) tb_X3_list r_X3_list_159 tF_19_3_13 cv22 rfl ?_
      refine b_aln (pc' := 163) (a := .inr (.inr (.inl 19))) tb_X3_list r_X3_list_162 rfl rfl rfl ?_
      obtain ⟨v23, cv23, h⟩ := rK_in h
      refine b_gi (pc' := 166) tb_X3_list r_X3_list_163 tF_19_3_15 cv23 rfl ?_
      refine b_add (pc' := 167) tb_X3_list r_X3_list_166 rfl ?_
      obtain ⟨M24, cM24, h⟩ := pK_in h
      refine b_pi (pc' := 170) tb_X3_list r_X3_list_167 rfl tF_11_8_2 cM24 rfl ?_
      refine b_aln (pc' := 171) (a := .inr (.inr (.inl 19))) tb_X3_list r_X3_list_170 rfl rfl rfl ?_
      obtain ⟨v25, cv25, h⟩ := rK_in h
      refine b_gi (pc' := 174) tb_X3_list r_X3_list_171 tF_19_3_15 cv25 rfl ?_
      exact b_ri tb_X3_list r_X3_list_174 rfl (sj h).symm
    · refine b_icF (t := 83) (pc' := 42) tb_X3_list r_X3_list_39 rfl ((nGe_c _ _).symm.trans c1) rfl ?_
      refine b_aln (pc' := 43) (a := .inr (.inr (.inl 19))) tb_X3_list r_X3_list_42 rfl rfl rfl ?_
      refine b_gr (pc' := 46) tb_X3_list r_X3_list_43 tF_19_3_2 rfl ?_
      refine b_gr (pc' := 49) tb_X3_list r_X3_list_46 tF_28_4_10 rfl ?_
      refine b_iln (pc' := 50) (a := .inl x5) tb_X3_list r_X3_list_49 rfl rfl rfl ?_
      obtain ⟨v26, dv26, cv26, h⟩ := lK_in h
      refine b_ia (pc' := 51) tb_X3_list r_X3_list_50 tA_35 dv26 cv26 rfl ?_
      refine b_st (pc' := 53) [(4, .inl v26), (0, .inr (.inr (.inl 19))), (1, .inl a1), (3, .inl x5)] tb_X3_list r_X3_list_51 rfl rfl rfl rfl ?_
      refine b_aln (pc' := 54) (a := .inr (.inr (.inl 19))) tb_X3_list r_X3_list_53 rfl rfl rfl ?_
      refine b_gr (pc' := 57) tb_X3_list r_X3_list_54 tF_19_3_3 rfl ?_
      refine b_il (pc' := 59) (a := .inl v26) tb_X3_list r_X3_list_57 rfl rfl rfl ?_
      refine b_aln (pc' := 60) (a := .inr (.inr (.inl 19))) tb_X3_list r_X3_list_59 rfl rfl rfl ?_
      refine b_gr (pc' := 63) tb_X3_list r_X3_list_60 tF_19_3_0 rfl ?_
      refine b_aln (pc' := 64) (a := .inr (.inr (.inl 19))) tb_X3_list r_X3_list_63 rfl rfl rfl ?_
      refine b_gr (pc' := 67) tb_X3_list r_X3_list_64 tF_19_3_2 rfl ?_
      refine b_gr (pc' := 70) tb_X3_list r_X3_list_67 tF_28_4_3 rfl ?_
      refine b_il (pc' := 72) (a := .inl v26) tb_X3_list r_X3_list_70 rfl rfl rfl ?_
      obtain ⟨v27, dv27, cv27, h⟩ := lK_in h
      refine b_ia (pc' := 73) tb_X3_list r_X3_list_72 tA_29 dv27 cv27 rfl ?_
      obtain ⟨v29, M28, ov29, h⟩ := cI_in h
      refine b_vI (pc' := 76) tb_X3_list r_X3_list_73 tb_X8_sortAt mo_X8_sortAt (by decide) rfl rfl ov29 (fun r hr => snd_X8_sortAt _ hr) (by decide) rfl rfl rfl ?_
      obtain ⟨M30, dM30, cM30, h⟩ := sK_in h
      refine b_is (pc' := 77) tb_X3_list r_X3_list_76 tA_20 dM30 cM30 rfl ?_
      refine b_inc (pc' := 80) (v := x5) (n := 1) [(3, .inl (oAdd x5 1)), (4, .inl v26), (0, .inr (.inr (.inl 19))), (1, .inl a1)] tb_X3_list r_X3_list_77 rfl rfl rfl rfl rfl ?_
      obtain ⟨v31, ev31, h⟩ := fK_v h
      rw [ev31]
      refine b_goto (pc' := 31) tb_X3_list r_X3_list_80 rfl ?_
      refine b_sub9 [(0, .inr (.inr (.inl 19))), (1, .inl a1), (3, .inl v31)] ⟨rfl, rfl, rfl, trivial⟩ ?_
      exact hj31 _ _ h
  refine b_sub9 [(0, .inr (.inr (.inl 19))), (1, .inl a1), (3, .inl 0)] ⟨rfl, rfl, rfl, trivial⟩ ?_
  exact hj31 _ _ h
noncomputable def m_X10_matches (M0 : Nat) : RN :=
  cI (m_X10_hasPatternAndSubject M0) (fun v2 M1 => bK (zNe v2) (cV (m_X8_startAnew M1) (fun M12 => rK M12 0 (fun v13 => fK (oSub v13 2) (fun v14 => cI (m_X10_stackAt v14 M12) (fun v16 M15 => cI (m_X10_topAt M15) (fun v18 M17 => cI (m_X3_list v16 v18 M17) (fun v20 M19 => some (Nat.add v20 2, M19)))))))) none)
set_option maxRecDepth 100000 in
theorem snd_X10_matches {l : Launch} {g : GV} {D : va_G} {sl q : Nat} {M0 : Nat} {r : Nat × Nat} (h : m_X10_matches M0 = some r) : SN l g D sl 187 0 q q 79 0 [(0, .inr (.inr (.inl 0)))] [] M0 (PR r) := by
  unfold m_X10_matches at h
  refine b_aln (pc' := 1) (a := .inr (.inr (.inl 0))) tb_X10_matches r_X10_matches_0 rfl rfl rfl ?_
  obtain ⟨v2, M1, ov2, h⟩ := cI_in h
  refine b_vI (pc' := 4) tb_X10_matches r_X10_matches_1 tb_X10_hasPatternAndSubject mo_X10_hasPatternAndSubject (by decide) rfl rfl ov2 (fun r hr => snd_X10_hasPatternAndSubject hr) (by decide) rfl rfl rfl ?_
  obtain ⟨c1, h⟩ := bK_t h
  refine b_ifT (t := 17) tb_X10_matches r_X10_matches_4 rfl ((zNe_c _).symm.trans c1) ?_
  refine b_aln (pc' := 18) (a := .inr (.inr (.inl 0))) tb_X10_matches r_X10_matches_17 rfl rfl rfl ?_
  refine b_gr (pc' := 21) tb_X10_matches r_X10_matches_18 tF_0_10_1 rfl ?_
  obtain ⟨M12, oM12, h⟩ := cV_in h
  refine b_vV (pc' := 24) tb_X10_matches r_X10_matches_21 tb_X8_startAnew mo_X8_startAnew (by decide) rfl rfl oM12 (fun r hr => snd_X8_startAnew hr) (by decide) rfl rfl rfl ?_
  refine b_aln (pc' := 25) (a := .inr (.inr (.inl 0))) tb_X10_matches r_X10_matches_24 rfl rfl rfl ?_
  refine b_gr (pc' := 28) tb_X10_matches r_X10_matches_25 tF_0_10_3 rfl ?_
  refine b_aln (pc' := 29) (a := .inr (.inr (.inl 0))) tb_X10_matches r_X10_matches_28 rfl rfl rfl ?_
  obtain ⟨v13, cv13, h⟩ := rK_in h
  refine b_gi (pc' := 32) tb_X10_matches r_X10_matches_29 tF_0_10_8 cv13 rfl ?_
  refine b_ic (pc' := 33) (2) tb_X10_matches r_X10_matches_32 rfl rfl ?_
  refine b_sub (pc' := 34) tb_X10_matches r_X10_matches_33 rfl ?_
  obtain ⟨v14, ev14, h⟩ := fK_v h
  rw [ev14]
  obtain ⟨v16, M15, ov16, h⟩ := cI_in h
  refine b_sI (pc' := 37) tb_X10_matches r_X10_matches_34 tb_X10_stackAt mo_X10_stackAt (by decide) rfl rfl ov16 (fun r hr => snd_X10_stackAt hr) (by decide) rfl rfl rfl ?_
  refine b_aln (pc' := 38) (a := .inr (.inr (.inl 0))) tb_X10_matches r_X10_matches_37 rfl rfl rfl ?_
  obtain ⟨v18, M17, ov18, h⟩ := cI_in h
  refine b_vI (pc' := 41) tb_X10_matches r_X10_matches_38 tb_X10_topAt mo_X10_topAt (by decide) rfl rfl ov18 (fun r hr => snd_X10_topAt hr) (by decide) rfl rfl rfl ?_
  obtain ⟨v20, M19, ov20, h⟩ := cI_in h
  refine b_vI (pc' := 44) tb_X10_matches r_X10_matches_41 tb_X3_list mo_X3_list (by decide) rfl rfl ov20 (fun r hr => snd_X3_list hr) (by decide) rfl rfl rfl ?_
  exact b_ri tb_X10_matches r_X10_matches_44 rfl (sj h).symm
noncomputable def m_X3_giveWay (a1 a2 : Nat) (M0 : Nat) : RN :=
  cV (m_X8_giveNothing M0) (fun M1 => lp (fun _ _ _ => none) (fun (j12 : (Nat → Nat →  Nat → RN)) => fun (x2 : Nat) (x3 : Nat) (M4 : Nat) => bK (nGe x3 10) (rbK 1 M4) (hK a2 x3 (fun v5 => jn (fun (x6 : Nat) (M7 : Nat) => fK (oAdd x3 1) (fun v8 => j12 x6 v8 M7)) (fun (j119 : (Nat →  Nat → RN)) => bK (nNe (oAnd v5 1) 1) (j119 x2 M4) (rK M4 1350 (fun v9 => bK (zLe v9) (j119 x2 M4) (rK M4 1351 (fun v10 => rK M4 1350 (fun v11 => dvK Nat.mod x2 v11 (fun v12 => fK (oAdd v10 v12) (fun v13 => lK2 M4 281 780 7500 7656 v13 (fun v14 => rK M4 1350 (fun v15 => dvK Nat.div x2 v15 (fun v16 => cI (m_X8_sortAt 30 v14 M4) (fun v18 M17 => lK M17 13 3 x3 (fun v19 => cI (m_X7_reaches v18 v19 M17) (fun v21 M20 => bK (zNe v21) (sK M20 1230 20 x3 v14 (fun M23 => j119 v16 M23)) none))))))))))))))))) (fun (j12 : (Nat → Nat →  Nat → RN)) => j12 a1 0 M1))
set_option maxRecDepth 100000 in
theorem snd_X3_giveWay {l : Launch} {g : GV} {D : va_G} {sl q : Nat} {a1 a2 M0 : Nat} {r : Nat × Nat} (h : m_X3_giveWay a1 a2 M0 = some r) : SN l g D sl 36 0 q q 46 0 [(0, .inr (.inr (.inl 19))), (1, .inl a1), (2, .inl a2)] [] M0 (PR r) := by
  unfold m_X3_giveWay at h
  refine b_iln (pc' := 1) (a := .inl a1) tb_X3_giveWay r_X3_giveWay_0 rfl rfl rfl ?_
  refine b_stn (pc' := 2) [(3, .inl a1), (0, .inr (.inr (.inl 19))), (1, .inl a1), (2, .inl a2)] tb_X3_giveWay r_X3_giveWay_1 rfl rfl rfl rfl ?_
  refine b_aln (pc' := 3) (a := .inr (.inr (.inl 19))) tb_X3_giveWay r_X3_giveWay_2 rfl rfl rfl ?_
  refine b_gr (pc' := 6) tb_X3_giveWay r_X3_giveWay_3 tF_19_3_0 rfl ?_
  obtain ⟨M1, oM1, h⟩ := cV_in h
  refine b_vV (pc' := 9) tb_X3_giveWay r_X3_giveWay_6 tb_X8_giveNothing mo_X8_giveNothing (by decide) rfl rfl oM1 (fun r hr => snd_X8_giveNothing hr) (by decide) rfl rfl rfl ?_
  refine b_ic (pc' := 10) (0) tb_X3_giveWay r_X3_giveWay_9 rfl rfl ?_
  refine b_st (pc' := 12) [(4, .inl 0), (3, .inl a1), (0, .inr (.inr (.inl 19))), (1, .inl a1), (2, .inl a2)] tb_X3_giveWay r_X3_giveWay_10 rfl rfl rfl rfl ?_
  refine lp_in (R := fun (j12 : (Nat → Nat → Nat → RN)) => ∀ (x2 x3 M4 : Nat), j12 x2 x3 M4 = some r → SN l g D sl 36 0 q q 46 12 [(0, .inr (.inr (.inl 19))), (2, .inl a2), (3, .inl x2), (4, .inl x3)] [] M4 (PR r)) h (fun _ _ _ h => by cases h) (fun j12 hj12 => ?_) (fun j12 hj12 h => ?_)
  · intro x2 x3 M4 h
    refine b_il (pc' := 14) (a := .inl x3) tb_X3_giveWay r_X3_giveWay_12 rfl rfl rfl ?_
    refine b_bi (pc' := 16) (10) tb_X3_giveWay r_X3_giveWay_14 rfl rfl rfl ?_
    rcases bK_in h with ⟨c1, h⟩ | ⟨c1, h⟩
    · refine b_icT (t := 125) tb_X3_giveWay r_X3_giveWay_16 rfl ((nGe_c _ _).symm.trans c1) ?_
      refine b_ic (pc' := 126) (1) tb_X3_giveWay r_X3_giveWay_125 rfl rfl ?_
      obtain ⟨c1, h⟩ := rbK_in h
      exact b_rb tb_X3_giveWay r_X3_giveWay_126 rfl c1 h
    · refine b_icF (t := 125) (pc' := 19) tb_X3_giveWay r_X3_giveWay_16 rfl ((nGe_c _ _).symm.trans c1) rfl ?_
      refine b_iln (pc' := 20) (a := .inl a2) tb_X3_giveWay r_X3_giveWay_19 rfl rfl rfl ?_
      refine b_il (pc' := 22) (a := .inl x3) tb_X3_giveWay r_X3_giveWay_20 rfl rfl rfl ?_
      obtain ⟨v5, c1, ev5, h⟩ := hK_in h
      refine b_shr (pc' := 23) tb_X3_giveWay r_X3_giveWay_22 c1 ev5 rfl ?_
      refine b_ic (pc' := 24) (1) tb_X3_giveWay r_X3_giveWay_23 rfl rfl ?_
      refine b_and (pc' := 25) tb_X3_giveWay r_X3_giveWay_24 rfl ?_
      refine b_ic (pc' := 26) (1) tb_X3_giveWay r_X3_giveWay_25 rfl rfl ?_
      refine jn_in (R := fun (j119 : (Nat → Nat → RN)) => ∀ (x6 M7 : Nat), j119 x6 M7 = some r → SN l g D sl 36 0 q q 46 119 [(0, .inr (.inr (.inl 19))), (2, .inl a2), (3, .inl x6), (4, .inl x3)] [] M7 (PR r)) h (fun x6 M7 h => ?_) (fun j119 hj119 h => ?_)
      · skip
        refine b_inc (pc' := 122) (v := x3) (n := 1) [(4, .inl (oAdd x3 1)), (0, .inr (.inr (.inl 19))), (2, .inl a2), (3, .inl x6)] tb_X3_giveWay r_X3_giveWay_119 rfl rfl rfl rfl rfl ?_
        obtain ⟨v8, ev8, h⟩ := fK_v h
        rw [ev8]
        refine b_goto (pc' := 12) tb_X3_giveWay r_X3_giveWay_122 rfl ?_
        refine b_sub9 [(0, .inr (.inr (.inl 19))), (2, .inl a2), (3, .inl x6), (4, .inl v8)] ⟨rfl, rfl, rfl, rfl, trivial⟩ ?_
        exact hj12 _ _ _ h
      rcases bK_in h with ⟨c1, h⟩ | ⟨c1, h⟩
      · refine b_icT (t := 119) tb_X3_giveWay r_X3_giveWay_26 rfl ((nNe_c _ _).symm.trans c1) ?_
        exact hj119 _ _ h
      · refine b_icF (t := 119) (pc' := 29) tb_X3_giveWay r_X3_giveWay_26 rfl ((nNe_c _ _).symm.trans c1) rfl ?_
        refine b_aln (pc' := 30) (a := .inr (.inr (.inl 19))) tb_X3_giveWay r_X3_giveWay_29 rfl rfl rfl ?_
        refine b_gr (pc' := 33) tb_X3_giveWay r_X3_giveWay_30 tF_19_3_2 rfl ?_
        obtain ⟨v9, cv9, h⟩ := rK_in h
        refine b_gi (pc' := 36) tb_X3_giveWay r_X3_giveWay_33 tF_28_4_9 cv9 rfl ?_
        rcases bK_in h with ⟨c1, h⟩ | ⟨c1, h⟩
        · refine b_ifT (t := 119) tb_X3_giveWay r_X3_giveWay_36 rfl ((zLe_c _).symm.trans c1) ?_
          exact hj119 _ _ h
        · refine b_ifF (t := 119) (pc' := 39) tb_X3_giveWay r_X3_giveWay_36 rfl ((zLe_c _).symm.trans c1) rfl ?_
          refine b_aln (pc' := 40) (a := .inr (.inr (.inl 19))) tb_X3_giveWay r_X3_giveWay_39 rfl rfl rfl ?_
          refine b_gr (pc' := 43) tb_X3_giveWay r_X3_giveWay_40 tF_19_3_0 rfl ?_
          refine b_gr (pc' := 46) tb_X3_giveWay r_X3_giveWay_43 tF_11_8_1 rfl ?_
          refine b_aln (pc' := 47) (a := .inr (.inr (.inl 19))) tb_X3_giveWay r_X3_giveWay_46 rfl rfl rfl ?_
          refine b_gr (pc' := 50) tb_X3_giveWay r_X3_giveWay_47 tF_19_3_2 rfl ?_
          obtain ⟨v10, cv10, h⟩ := rK_in h
          refine b_gi (pc' := 53) tb_X3_giveWay r_X3_giveWay_50 tF_28_4_15 cv10 rfl ?_
          refine b_iln (pc' := 54) (a := .inl x2) tb_X3_giveWay r_X3_giveWay_53 rfl rfl rfl ?_
          refine b_aln (pc' := 55) (a := .inr (.inr (.inl 19))) tb_X3_giveWay r_X3_giveWay_54 rfl rfl rfl ?_
          refine b_gr (pc' := 58) tb_X3_giveWay r_X3_giveWay_55 tF_19_3_2 rfl ?_
          obtain ⟨v11, cv11, h⟩ := rK_in h
          refine b_gi (pc' := 61) tb_X3_giveWay r_X3_giveWay_58 tF_28_4_9 cv11 rfl ?_
          obtain ⟨v12, c1, c2, c3, ev12, h⟩ := dvK_in h
          refine b_rem (pc' := 62) tb_X3_giveWay r_X3_giveWay_61 c1 c2 c3 ev12 rfl ?_
          refine b_add (pc' := 63) tb_X3_giveWay r_X3_giveWay_62 rfl ?_
          obtain ⟨v13, ev13, h⟩ := fK_v h
          rw [ev13]
          obtain ⟨v14, _, dv14, cv14, h⟩ := lK2_in h
          refine b_ia2 (pc' := 64) tb_X3_giveWay r_X3_giveWay_63 tA_12 dv14 cv14 rfl ?_
          refine b_st (pc' := 66) [(5, .inl v14), (0, .inr (.inr (.inl 19))), (2, .inl a2), (3, .inl x2), (4, .inl x3)] tb_X3_giveWay r_X3_giveWay_64 rfl rfl rfl rfl ?_
          refine b_iln (pc' := 67) (a := .inl x2) tb_X3_giveWay r_X3_giveWay_66 rfl rfl rfl ?_
          refine b_aln (pc' := 68) (a := .inr (.inr (.inl 19))) tb_X3_giveWay r_X3_giveWay_67 rfl rfl rfl ?_
          refine b_gr (pc' := 71) tb_X3_giveWay r_X3_giveWay_68 tF_19_3_2 rfl ?_
          obtain ⟨v15, cv15, h⟩ := rK_in h
          refine b_gi (pc' := 74) tb_X3_giveWay r_X3_giveWay_71 tF_28_4_9 cv15 rfl ?_
          obtain ⟨v16, c1, c2, c3, ev16, h⟩ := dvK_in h
          refine b_div (pc' := 75) tb_X3_giveWay r_X3_giveWay_74 c1 c2 c3 ev16 rfl ?_
          refine b_stn (pc' := 76) [(3, .inl v16), (5, .inl v14), (0, .inr (.inr (.inl 19))), (2, .inl a2), (4, .inl x3)] tb_X3_giveWay r_X3_giveWay_75 rfl rfl rfl rfl ?_
          refine b_aln (pc' := 77) (a := .inr (.inr (.inl 19))) tb_X3_giveWay r_X3_giveWay_76 rfl rfl rfl ?_
          refine b_gr (pc' := 80) tb_X3_giveWay r_X3_giveWay_77 tF_19_3_1 rfl ?_
          refine b_aln (pc' := 81) (a := .inr (.inr (.inl 19))) tb_X3_giveWay r_X3_giveWay_80 rfl rfl rfl ?_
          refine b_gr (pc' := 84) tb_X3_giveWay r_X3_giveWay_81 tF_19_3_0 rfl ?_
          refine b_il (pc' := 86) (a := .inl v14) tb_X3_giveWay r_X3_giveWay_84 rfl rfl rfl ?_
          obtain ⟨v18, M17, ov18, h⟩ := cI_in h
          refine b_vI (pc' := 89) tb_X3_giveWay r_X3_giveWay_86 tb_X8_sortAt mo_X8_sortAt (by decide) rfl rfl ov18 (fun r hr => snd_X8_sortAt _ hr) (by decide) rfl rfl rfl ?_
          refine b_aln (pc' := 90) (a := .inr (.inr (.inl 19))) tb_X3_giveWay r_X3_giveWay_89 rfl rfl rfl ?_
          refine b_gr (pc' := 93) tb_X3_giveWay r_X3_giveWay_90 tF_19_3_1 rfl ?_
          refine b_gr (pc' := 96) tb_X3_giveWay r_X3_giveWay_93 tF_1_7_3 rfl ?_
          refine b_il (pc' := 98) (a := .inl x3) tb_X3_giveWay r_X3_giveWay_96 rfl rfl rfl ?_
          obtain ⟨v19, dv19, cv19, h⟩ := lK_in h
          refine b_ia (pc' := 99) tb_X3_giveWay r_X3_giveWay_98 tA_3 dv19 cv19 rfl ?_
          obtain ⟨v21, M20, ov21, h⟩ := cI_in h
          refine b_vI (pc' := 102) tb_X3_giveWay r_X3_giveWay_99 tb_X7_reaches mo_X7_reaches (by decide) rfl rfl ov21 (fun r hr => snd_X7_reaches hr) (by decide) rfl rfl rfl ?_
          obtain ⟨c1, h⟩ := bK_t h
          refine b_ifT (t := 107) tb_X3_giveWay r_X3_giveWay_102 rfl ((zNe_c _).symm.trans c1) ?_
          refine b_aln (pc' := 108) (a := .inr (.inr (.inl 19))) tb_X3_giveWay r_X3_giveWay_107 rfl rfl rfl ?_
          refine b_gr (pc' := 111) tb_X3_giveWay r_X3_giveWay_108 tF_19_3_0 rfl ?_
          refine b_gr (pc' := 114) tb_X3_giveWay r_X3_giveWay_111 tF_11_8_7 rfl ?_
          refine b_il (pc' := 116) (a := .inl x3) tb_X3_giveWay r_X3_giveWay_114 rfl rfl rfl ?_
          refine b_il (pc' := 118) (a := .inl v14) tb_X3_giveWay r_X3_giveWay_116 rfl rfl rfl ?_
          obtain ⟨M23, dM23, cM23, h⟩ := sK_in h
          refine b_is (pc' := 119) tb_X3_giveWay r_X3_giveWay_118 tA_16 dM23 cM23 rfl ?_
          refine b_sub9 [(0, .inr (.inr (.inl 19))), (2, .inl a2), (3, .inl v16), (4, .inl x3)] ⟨rfl, rfl, rfl, rfl, trivial⟩ ?_
          exact hj119 _ _ h
  refine b_sub9 [(0, .inr (.inr (.inl 19))), (2, .inl a2), (3, .inl a1), (4, .inl 0)] ⟨rfl, rfl, rfl, rfl, trivial⟩ ?_
  exact hj12 _ _ _ h
noncomputable def m_X8_rebuild (d : Nat) : Nat → Nat → RN := @Nat.rec (fun _ => Nat → Nat → RN) (fun _ _ => none) (fun _ ih a1 M0 =>
  rK M0 278 (fun v1 => bK (nNe a1 v1) (lK2 M0 281 780 7500 7656 a1 (fun v29 => bK (nGe v29 32) (rK M0 277 (fun v30 => fK (oAdd a1 1) (fun v31 => lp (fun _ _ _ => none) (fun (j60 : (Nat → Nat →  Nat → RN)) => fun (x32 : Nat) (x33 : Nat) (M34 : Nat) => dvK Nat.mod v29 8 (fun v35 => bK (nGe x33 v35) (cI (m_X10_operatorIn v29 M34) (fun v37 M36 => rK M36 280 (fun v38 => bK (zEq v38) (cI (m_X8_putOn v37 v30 M36) (fun v42 M41 => some (Nat.add v42 2, M41))) none))) (cI (ih x32 M34) (fun v44 M43 => bK (zGe v44) (cV (m_X8_await v44 M43) (fun M49 => cI (m_X8_end x32 M49) (fun v51 M50 => fK (oAdd x33 1) (fun v52 => j60 v51 v52 M50)))) none)))) (fun (j60 : (Nat → Nat →  Nat → RN)) => j60 v31 0 M0)))) (lK M0 1230 20 v29 (fun v53 => bK (nNe v53 4294967295) (lK M0 1230 20 v29 (fun v55 => some (Nat.add v55 2, M0))) none)))) none)) d
set_option maxRecDepth 100000 in
theorem snd_X8_rebuild {l : Launch} {g : GV} {D : va_G} {sl q : Nat} (d : Nat) {a1 M0 : Nat} {r : Nat × Nat} (h : m_X8_rebuild d a1 M0 = some r) : SN l g D sl (d + 6) 0 q q 76 0 [(0, .inr (.inr (.inl 11))), (1, .inl a1)] [] M0 (PR r) := by
  induction d generalizing a1 M0 r with
  | zero => cases h
  | succ d ih0 =>
    have hih : ∀ (a1 M0 : Nat) (r : Nat × Nat), m_X8_rebuild d a1 M0 = some r → SN l g D sl (d + 6) 0 q q 76 0 [(0, .inr (.inr (.inl 11))), (1, .inl a1)] [] M0 (PR r) := fun a1 M0 r h => ih0 h
    clear ih0
    refine SN.hup (h := (d + 6 + 1)) (by omega) ?_
    generalize eih : m_X8_rebuild d = ih at hih
    have h : (fun (ih : Nat → Nat → RN) => (fun (a1 M0 : Nat) =>
  rK M0 278 (fun v1 => bK (nNe a1 v1) (lK2 M0 281 780 7500 7656 a1 (fun v29 => bK (nGe v29 32) (rK M0 277 (fun v30 => fK (oAdd a1 1) (fun v31 => lp (fun _ _ _ => none) (fun (j60 : (Nat → Nat →  Nat → RN)) => fun (x32 : Nat) (x33 : Nat) (M34 : Nat) => dvK Nat.mod v29 8 (fun v35 => bK (nGe x33 v35) (cI (m_X10_operatorIn v29 M34) (fun v37 M36 => rK M36 280 (fun v38 => bK (zEq v38) (cI (m_X8_putOn v37 v30 M36) (fun v42 M41 => some (Nat.add v42 2, M41))) none))) (cI (ih x32 M34) (fun v44 M43 => bK (zGe v44) (cV (m_X8_await v44 M43) (fun M49 => cI (m_X8_end x32 M49) (fun v51 M50 => fK (oAdd x33 1) (fun v52 => j60 v51 v52 M50)))) none)))) (fun (j60 : (Nat → Nat →  Nat → RN)) => j60 v31 0 M0)))) (lK M0 1230 20 v29 (fun v53 => bK (nNe v53 4294967295) (lK M0 1230 20 v29 (fun v55 => some (Nat.add v55 2, M0))) none)))) none))) ih a1 M0 = some r := by rw [← eih]; exact h
    clear eih
    refine b_iln (pc' := 1) (a := .inl a1) tb_X8_rebuild r_X8_rebuild_0 rfl rfl rfl ?_
    refine b_aln (pc' := 2) (a := .inr (.inr (.inl 11))) tb_X8_rebuild r_X8_rebuild_1 rfl rfl rfl ?_
    obtain ⟨v1, cv1, h⟩ := rK_in h
    refine b_gi (pc' := 5) tb_X8_rebuild r_X8_rebuild_2 tF_11_8_8 cv1 rfl ?_
    obtain ⟨c1, h⟩ := bK_t h
    refine b_icT (t := 13) tb_X8_rebuild r_X8_rebuild_5 rfl ((nNe_c _ _).symm.trans c1) ?_
    refine b_aln (pc' := 14) (a := .inr (.inr (.inl 11))) tb_X8_rebuild r_X8_rebuild_13 rfl rfl rfl ?_
    refine b_gr (pc' := 17) tb_X8_rebuild r_X8_rebuild_14 tF_11_8_1 rfl ?_
    refine b_iln (pc' := 18) (a := .inl a1) tb_X8_rebuild r_X8_rebuild_17 rfl rfl rfl ?_
    obtain ⟨v29, _, dv29, cv29, h⟩ := lK2_in h
    refine b_ia2 (pc' := 19) tb_X8_rebuild r_X8_rebuild_18 tA_12 dv29 cv29 rfl ?_
    refine b_stn (pc' := 20) [(2, .inl v29), (0, .inr (.inr (.inl 11))), (1, .inl a1)] tb_X8_rebuild r_X8_rebuild_19 rfl rfl rfl rfl ?_
    refine b_iln (pc' := 21) (a := .inl v29) tb_X8_rebuild r_X8_rebuild_20 rfl rfl rfl ?_
    refine b_bi (pc' := 23) (32) tb_X8_rebuild r_X8_rebuild_21 rfl rfl rfl ?_
    rcases bK_in h with ⟨c1, h⟩ | ⟨c1, h⟩
    · refine b_icT (t := 47) tb_X8_rebuild r_X8_rebuild_23 rfl ((nGe_c _ _).symm.trans c1) ?_
      refine b_aln (pc' := 48) (a := .inr (.inr (.inl 11))) tb_X8_rebuild r_X8_rebuild_47 rfl rfl rfl ?_
      obtain ⟨v30, cv30, h⟩ := rK_in h
      refine b_gi (pc' := 51) tb_X8_rebuild r_X8_rebuild_48 tF_11_8_4 cv30 rfl ?_
      refine b_stn (pc' := 52) [(3, .inl v30), (2, .inl v29), (0, .inr (.inr (.inl 11))), (1, .inl a1)] tb_X8_rebuild r_X8_rebuild_51 rfl rfl rfl rfl ?_
      refine b_iln (pc' := 53) (a := .inl a1) tb_X8_rebuild r_X8_rebuild_52 rfl rfl rfl ?_
      refine b_ic (pc' := 54) (1) tb_X8_rebuild r_X8_rebuild_53 rfl rfl ?_
      refine b_add (pc' := 55) tb_X8_rebuild r_X8_rebuild_54 rfl ?_
      obtain ⟨v31, ev31, h⟩ := fK_v h
      rw [ev31]
      refine b_st (pc' := 57) [(4, .inl v31), (3, .inl v30), (2, .inl v29), (0, .inr (.inr (.inl 11))), (1, .inl a1)] tb_X8_rebuild r_X8_rebuild_55 rfl rfl rfl rfl ?_
      refine b_ic (pc' := 58) (0) tb_X8_rebuild r_X8_rebuild_57 rfl rfl ?_
      refine b_st (pc' := 60) [(5, .inl 0), (4, .inl v31), (3, .inl v30), (2, .inl v29), (0, .inr (.inr (.inl 11))), (1, .inl a1)] tb_X8_rebuild r_X8_rebuild_58 rfl rfl rfl rfl ?_
      refine lp_in (R := fun (j60 : (Nat → Nat → Nat → RN)) => ∀ (x32 x33 M34 : Nat), j60 x32 x33 M34 = some r → SN l g D sl (d + 6 + 1) 0 q q 76 60 [(0, .inr (.inr (.inl 11))), (2, .inl v29), (3, .inl v30), (4, .inl x32), (5, .inl x33)] [] M34 (PR r)) h (fun _ _ _ h => by cases h) (fun j60 hj60 => ?_) (fun j60 hj60 h => ?_)
      · intro x32 x33 M34 h
        refine b_il (pc' := 62) (a := .inl x33) tb_X8_rebuild r_X8_rebuild_60 rfl rfl rfl ?_
        refine b_iln (pc' := 63) (a := .inl v29) tb_X8_rebuild r_X8_rebuild_62 rfl rfl rfl ?_
        refine b_bi (pc' := 65) (8) tb_X8_rebuild r_X8_rebuild_63 rfl rfl rfl ?_
        obtain ⟨v35, c1, c2, c3, ev35, h⟩ := dvK_in h
        refine b_rem (pc' := 66) tb_X8_rebuild r_X8_rebuild_65 c1 c2 c3 ev35 rfl ?_
        rcases bK_in h with ⟨c1, h⟩ | ⟨c1, h⟩
        · refine b_icT (t := 109) tb_X8_rebuild r_X8_rebuild_66 rfl ((nGe_c _ _).symm.trans c1) ?_
          refine b_iln (pc' := 110) (a := .inl v29) tb_X8_rebuild r_X8_rebuild_109 rfl rfl rfl ?_
          obtain ⟨v37, M36, ov37, h⟩ := cI_in h
          refine b_sI (pc' := 113) tb_X8_rebuild r_X8_rebuild_110 tb_X10_operatorIn mo_X10_operatorIn (by decide) rfl rfl ov37 (fun r hr => snd_X10_operatorIn hr) (by omega) rfl rfl rfl ?_
          refine b_st (pc' := 115) [(5, .inl v37), (0, .inr (.inr (.inl 11))), (2, .inl v29), (3, .inl v30), (4, .inl x32)] tb_X8_rebuild r_X8_rebuild_113 rfl rfl rfl rfl ?_
          refine b_aln (pc' := 116) (a := .inr (.inr (.inl 11))) tb_X8_rebuild r_X8_rebuild_115 rfl rfl rfl ?_
          refine b_aln (pc' := 117) (a := .inr (.inr (.inl 11))) tb_X8_rebuild r_X8_rebuild_116 rfl rfl rfl ?_
          obtain ⟨v38, cv38, h⟩ := rK_in h
          refine b_gi (pc' := 120) tb_X8_rebuild r_X8_rebuild_117 tF_11_8_10 cv38 rfl ?_
          obtain ⟨c1, h⟩ := bK_t h
          refine b_ifT (t := 136) tb_X8_rebuild r_X8_rebuild_120 rfl ((zEq_c _).symm.trans c1) ?_
          refine b_il (pc' := 138) (a := .inl v37) tb_X8_rebuild r_X8_rebuild_136 rfl rfl rfl ?_
          refine b_iln (pc' := 139) (a := .inl v30) tb_X8_rebuild r_X8_rebuild_138 rfl rfl rfl ?_
          obtain ⟨v42, M41, ov42, h⟩ := cI_in h
          refine b_vI (pc' := 142) tb_X8_rebuild r_X8_rebuild_139 tb_X8_putOn mo_X8_putOn (by decide) rfl rfl ov42 (fun r hr => snd_X8_putOn hr) (by omega) rfl rfl rfl ?_
          exact b_ri tb_X8_rebuild r_X8_rebuild_142 rfl (sj h).symm
        · refine b_icF (t := 109) (pc' := 69) tb_X8_rebuild r_X8_rebuild_66 rfl ((nGe_c _ _).symm.trans c1) rfl ?_
          refine b_aln (pc' := 70) (a := .inr (.inr (.inl 11))) tb_X8_rebuild r_X8_rebuild_69 rfl rfl rfl ?_
          refine b_il (pc' := 72) (a := .inl x32) tb_X8_rebuild r_X8_rebuild_70 rfl rfl rfl ?_
          obtain ⟨v44, M43, ov44, h⟩ := cI_in h
          refine b_vI (pc' := 75) tb_X8_rebuild r_X8_rebuild_72 tb_X8_rebuild mo_X8_rebuild (by decide) rfl rfl ov44 (fun r hr => hih _ _ _ hr) (by omega) rfl rfl rfl ?_
          refine b_st (pc' := 77) [(6, .inl v44), (0, .inr (.inr (.inl 11))), (2, .inl v29), (3, .inl v30), (4, .inl x32), (5, .inl x33)] tb_X8_rebuild r_X8_rebuild_75 rfl rfl rfl rfl ?_
          refine b_il (pc' := 79) (a := .inl v44) tb_X8_rebuild r_X8_rebuild_77 rfl rfl rfl ?_
          obtain ⟨c1, h⟩ := bK_t h
          refine b_ifT (t := 89) tb_X8_rebuild r_X8_rebuild_79 rfl ((zGe_c _).symm.trans c1) ?_
          refine b_aln (pc' := 90) (a := .inr (.inr (.inl 11))) tb_X8_rebuild r_X8_rebuild_89 rfl rfl rfl ?_
          refine b_il (pc' := 92) (a := .inl v44) tb_X8_rebuild r_X8_rebuild_90 rfl rfl rfl ?_
          obtain ⟨M49, oM49, h⟩ := cV_in h
          refine b_vV (pc' := 95) tb_X8_rebuild r_X8_rebuild_92 tb_X8_await mo_X8_await (by decide) rfl rfl oM49 (fun r hr => snd_X8_await hr) (by omega) rfl rfl rfl ?_
          refine b_aln (pc' := 96) (a := .inr (.inr (.inl 11))) tb_X8_rebuild r_X8_rebuild_95 rfl rfl rfl ?_
          refine b_il (pc' := 98) (a := .inl x32) tb_X8_rebuild r_X8_rebuild_96 rfl rfl rfl ?_
          obtain ⟨v51, M50, ov51, h⟩ := cI_in h
          refine b_vI (pc' := 101) tb_X8_rebuild r_X8_rebuild_98 tb_X8_end mo_X8_end (by decide) rfl rfl ov51 (fun r hr => snd_X8_end hr) (by omega) rfl rfl rfl ?_
          refine b_st (pc' := 103) [(4, .inl v51), (6, .inl v44), (0, .inr (.inr (.inl 11))), (2, .inl v29), (3, .inl v30), (5, .inl x33)] tb_X8_rebuild r_X8_rebuild_101 rfl rfl rfl rfl ?_
          refine b_inc (pc' := 106) (v := x33) (n := 1) [(5, .inl (oAdd x33 1)), (4, .inl v51), (6, .inl v44), (0, .inr (.inr (.inl 11))), (2, .inl v29), (3, .inl v30)] tb_X8_rebuild r_X8_rebuild_103 rfl rfl rfl rfl rfl ?_
          obtain ⟨v52, ev52, h⟩ := fK_v h
          rw [ev52]
          refine b_goto (pc' := 60) tb_X8_rebuild r_X8_rebuild_106 rfl ?_
          refine b_sub9 [(0, .inr (.inr (.inl 11))), (2, .inl v29), (3, .inl v30), (4, .inl v51), (5, .inl v52)] ⟨rfl, rfl, rfl, rfl, rfl, trivial⟩ ?_
          exact hj60 _ _ _ h
      refine b_sub9 [(0, .inr (.inr (.inl 11))), (2, .inl v29), (3, .inl v30), (4, .inl v31), (5, .inl 0)] ⟨rfl, rfl, rfl, rfl, rfl, trivial⟩ ?_
      exact hj60 _ _ _ h
    · refine b_icF (t := 47) (pc' := 26) tb_X8_rebuild r_X8_rebuild_23 rfl ((nGe_c _ _).symm.trans c1) rfl ?_
      refine b_aln (pc' := 27) (a := .inr (.inr (.inl 11))) tb_X8_rebuild r_X8_rebuild_26 rfl rfl rfl ?_
      refine b_gr (pc' := 30) tb_X8_rebuild r_X8_rebuild_27 tF_11_8_7 rfl ?_
      refine b_iln (pc' := 31) (a := .inl v29) tb_X8_rebuild r_X8_rebuild_30 rfl rfl rfl ?_
      obtain ⟨v53, dv53, cv53, h⟩ := lK_in h
      refine b_ia (pc' := 32) tb_X8_rebuild r_X8_rebuild_31 tA_16 dv53 cv53 rfl ?_
      refine b_ic (pc' := 33) (4294967295) tb_X8_rebuild r_X8_rebuild_32 rfl rfl ?_
      obtain ⟨c1, h⟩ := bK_t h
      refine b_icT (t := 40) tb_X8_rebuild r_X8_rebuild_33 rfl ((nNe_c _ _).symm.trans c1) ?_
      refine b_aln (pc' := 41) (a := .inr (.inr (.inl 11))) tb_X8_rebuild r_X8_rebuild_40 rfl rfl rfl ?_
      refine b_gr (pc' := 44) tb_X8_rebuild r_X8_rebuild_41 tF_11_8_7 rfl ?_
      refine b_iln (pc' := 45) (a := .inl v29) tb_X8_rebuild r_X8_rebuild_44 rfl rfl rfl ?_
      obtain ⟨v55, dv55, cv55, h⟩ := lK_in h
      refine b_ia (pc' := 46) tb_X8_rebuild r_X8_rebuild_45 tA_16 dv55 cv55 rfl ?_
      exact b_ri tb_X8_rebuild r_X8_rebuild_46 rfl (sj h).symm
noncomputable def m_X3_countByTrying (a1 a2 : Nat) (M0 : Nat) : RN :=
  cV (m_X4_collect a2 M0) (fun M1 => cV (m_X4_addParts M1) (fun M2 => cV (m_X4_addIdentities M2) (fun M3 => cV (m_X4_rankAll M3) (fun M4 => rK M4 1350 (fun v5 => bK (nLe v5 8) (cI (m_X8_variablesAt a1 M4) (fun v7 M6 => lp (fun _ _ _ => none) (fun (j58 : (Nat → Nat →  Nat → RN)) => fun (x8 : Nat) (x9 : Nat) (M10 : Nat) => cI (m_J6_bitCount_0f7a4 v7 M10) (fun v12 M11 => bK (nGe x9 v12) (rK M11 276 (fun v13 => lp (fun _ _ _ => none) (fun (j100 : (Nat → Nat →  Nat → RN)) => fun (x14 : Nat) (x15 : Nat) (M16 : Nat) => bK (nGe x15 x8) (some (Nat.add x14 2, M16)) (pK M16 276 v13 (fun M17 => cI (m_X3_giveWay x15 v7 M17) (fun v19 M18 => jn (fun (x20 : Nat) (M21 : Nat) => fK (oAdd x15 1) (fun v22 => j100 x20 v22 M21)) (fun (j164 : (Nat →  Nat → RN)) => bK (zEq v19) (j164 x14 M18) (cI (m_X8_rebuild 12 a1 M18) (fun v24 M23 => jn (fun (s25 : Nat) (s26 : Nat) (M27 : Nat) => fK (oAdd s26 s25) (fun v28 => j164 v28 M27)) (fun (j161 : (Nat → Nat →  Nat → RN)) => jn (fun (s29 : Nat) (M30 : Nat) => j161 0 s29 M30) (fun (j160 : (Nat →  Nat → RN)) => bK (zLt v24) (j160 x14 M23) (cI (m_X8_order v24 a2 M23) (fun v32 M31 => bK (zNe v32) (j160 x14 M31) (j161 1 x14 M31)))))))))))) (fun (j100 : (Nat → Nat →  Nat → RN)) => j100 0 0 M11))) (rK M11 1350 (fun v33 => fK (oMul x8 v33) (fun v34 => fK (oAdd x9 1) (fun v35 => j58 v34 v35 M11)))))) (fun (j58 : (Nat → Nat →  Nat → RN)) => j58 1 0 M6))) (some (Nat.add 4294967295 2, M4)))))))
set_option maxRecDepth 100000 in
theorem snd_X3_countByTrying {l : Launch} {g : GV} {D : va_G} {sl q : Nat} {a1 a2 M0 : Nat} {r : Nat × Nat} (h : m_X3_countByTrying a1 a2 M0 = some r) : SN l g D sl 37 0 q q 45 0 [(0, .inr (.inr (.inl 19))), (1, .inl a1), (2, .inl a2)] [] M0 (PR r) := by
  unfold m_X3_countByTrying at h
  refine b_aln (pc' := 1) (a := .inr (.inr (.inl 19))) tb_X3_countByTrying r_X3_countByTrying_0 rfl rfl rfl ?_
  refine b_gr (pc' := 4) tb_X3_countByTrying r_X3_countByTrying_1 tF_19_3_2 rfl ?_
  refine b_iln (pc' := 5) (a := .inl a2) tb_X3_countByTrying r_X3_countByTrying_4 rfl rfl rfl ?_
  obtain ⟨M1, oM1, h⟩ := cV_in h
  refine b_vV (pc' := 8) tb_X3_countByTrying r_X3_countByTrying_5 tb_X4_collect mo_X4_collect (by decide) rfl rfl oM1 (fun r hr => snd_X4_collect hr) (by decide) rfl rfl rfl ?_
  refine b_aln (pc' := 9) (a := .inr (.inr (.inl 19))) tb_X3_countByTrying r_X3_countByTrying_8 rfl rfl rfl ?_
  refine b_gr (pc' := 12) tb_X3_countByTrying r_X3_countByTrying_9 tF_19_3_2 rfl ?_
  obtain ⟨M2, oM2, h⟩ := cV_in h
  refine b_vV (pc' := 15) tb_X3_countByTrying r_X3_countByTrying_12 tb_X4_addParts mo_X4_addParts (by decide) rfl rfl oM2 (fun r hr => snd_X4_addParts hr) (by decide) rfl rfl rfl ?_
  refine b_aln (pc' := 16) (a := .inr (.inr (.inl 19))) tb_X3_countByTrying r_X3_countByTrying_15 rfl rfl rfl ?_
  refine b_gr (pc' := 19) tb_X3_countByTrying r_X3_countByTrying_16 tF_19_3_2 rfl ?_
  obtain ⟨M3, oM3, h⟩ := cV_in h
  refine b_vV (pc' := 22) tb_X3_countByTrying r_X3_countByTrying_19 tb_X4_addIdentities mo_X4_addIdentities (by decide) rfl rfl oM3 (fun r hr => snd_X4_addIdentities hr) (by decide) rfl rfl rfl ?_
  refine b_aln (pc' := 23) (a := .inr (.inr (.inl 19))) tb_X3_countByTrying r_X3_countByTrying_22 rfl rfl rfl ?_
  refine b_gr (pc' := 26) tb_X3_countByTrying r_X3_countByTrying_23 tF_19_3_2 rfl ?_
  obtain ⟨M4, oM4, h⟩ := cV_in h
  refine b_vV (pc' := 29) tb_X3_countByTrying r_X3_countByTrying_26 tb_X4_rankAll mo_X4_rankAll (by decide) rfl rfl oM4 (fun r hr => snd_X4_rankAll hr) (by decide) rfl rfl rfl ?_
  refine b_aln (pc' := 30) (a := .inr (.inr (.inl 19))) tb_X3_countByTrying r_X3_countByTrying_29 rfl rfl rfl ?_
  refine b_gr (pc' := 33) tb_X3_countByTrying r_X3_countByTrying_30 tF_19_3_2 rfl ?_
  obtain ⟨v5, cv5, h⟩ := rK_in h
  refine b_gi (pc' := 36) tb_X3_countByTrying r_X3_countByTrying_33 tF_28_4_9 cv5 rfl ?_
  refine b_bi (pc' := 38) (8) tb_X3_countByTrying r_X3_countByTrying_36 rfl rfl rfl ?_
  rcases bK_in h with ⟨c1, h⟩ | ⟨c1, h⟩
  · refine b_icT (t := 43) tb_X3_countByTrying r_X3_countByTrying_38 rfl ((nLe_c _ _).symm.trans c1) ?_
    refine b_aln (pc' := 44) (a := .inr (.inr (.inl 19))) tb_X3_countByTrying r_X3_countByTrying_43 rfl rfl rfl ?_
    refine b_gr (pc' := 47) tb_X3_countByTrying r_X3_countByTrying_44 tF_19_3_0 rfl ?_
    refine b_iln (pc' := 48) (a := .inl a1) tb_X3_countByTrying r_X3_countByTrying_47 rfl rfl rfl ?_
    obtain ⟨v7, M6, ov7, h⟩ := cI_in h
    refine b_vI (pc' := 51) tb_X3_countByTrying r_X3_countByTrying_48 tb_X8_variablesAt mo_X8_variablesAt (by decide) rfl rfl ov7 (fun r hr => snd_X8_variablesAt hr) (by decide) rfl rfl rfl ?_
    refine b_stn (pc' := 52) [(3, .inl v7), (0, .inr (.inr (.inl 19))), (1, .inl a1), (2, .inl a2)] tb_X3_countByTrying r_X3_countByTrying_51 rfl rfl rfl rfl ?_
    refine b_ic (pc' := 53) (1) tb_X3_countByTrying r_X3_countByTrying_52 rfl rfl ?_
    refine b_st (pc' := 55) [(4, .inl 1), (3, .inl v7), (0, .inr (.inr (.inl 19))), (1, .inl a1), (2, .inl a2)] tb_X3_countByTrying r_X3_countByTrying_53 rfl rfl rfl rfl ?_
    refine b_ic (pc' := 56) (0) tb_X3_countByTrying r_X3_countByTrying_55 rfl rfl ?_
    refine b_st (pc' := 58) [(5, .inl 0), (4, .inl 1), (3, .inl v7), (0, .inr (.inr (.inl 19))), (1, .inl a1), (2, .inl a2)] tb_X3_countByTrying r_X3_countByTrying_56 rfl rfl rfl rfl ?_
    refine lp_in (R := fun (j58 : (Nat → Nat → Nat → RN)) => ∀ (x8 x9 M10 : Nat), j58 x8 x9 M10 = some r → SN l g D sl 37 0 q q 45 58 [(0, .inr (.inr (.inl 19))), (1, .inl a1), (2, .inl a2), (3, .inl v7), (4, .inl x8), (5, .inl x9)] [] M10 (PR r)) h (fun _ _ _ h => by cases h) (fun j58 hj58 => ?_) (fun j58 hj58 h => ?_)
    · intro x8 x9 M10 h
      refine b_il (pc' := 60) (a := .inl x9) tb_X3_countByTrying r_X3_countByTrying_58 rfl rfl rfl ?_
      refine b_iln (pc' := 61) (a := .inl v7) tb_X3_countByTrying r_X3_countByTrying_60 rfl rfl rfl ?_
      obtain ⟨v12, M11, ov12, h⟩ := cI_in h
      refine b_sI (pc' := 64) tb_X3_countByTrying r_X3_countByTrying_61 tb_J6_bitCount_0f7a4 mo_J6_bitCount_0f7a4 (by decide) rfl rfl ov12 (fun r hr => snd_J6_bitCount_0f7a4 hr) (by decide) rfl rfl rfl ?_
      rcases bK_in h with ⟨c1, h⟩ | ⟨c1, h⟩
      · refine b_icT (t := 85) tb_X3_countByTrying r_X3_countByTrying_64 rfl ((nGe_c _ _).symm.trans c1) ?_
        refine b_aln (pc' := 86) (a := .inr (.inr (.inl 19))) tb_X3_countByTrying r_X3_countByTrying_85 rfl rfl rfl ?_
        refine b_gr (pc' := 89) tb_X3_countByTrying r_X3_countByTrying_86 tF_19_3_0 rfl ?_
        obtain ⟨v13, cv13, h⟩ := rK_in h
        refine b_gi (pc' := 92) tb_X3_countByTrying r_X3_countByTrying_89 tF_11_8_2 cv13 rfl ?_
        refine b_st (pc' := 94) [(5, .inl v13), (0, .inr (.inr (.inl 19))), (1, .inl a1), (2, .inl a2), (3, .inl v7), (4, .inl x8)] tb_X3_countByTrying r_X3_countByTrying_92 rfl rfl rfl rfl ?_
        refine b_ic (pc' := 95) (0) tb_X3_countByTrying r_X3_countByTrying_94 rfl rfl ?_
        refine b_st (pc' := 97) [(6, .inl 0), (5, .inl v13), (0, .inr (.inr (.inl 19))), (1, .inl a1), (2, .inl a2), (3, .inl v7), (4, .inl x8)] tb_X3_countByTrying r_X3_countByTrying_95 rfl rfl rfl rfl ?_
        refine b_ic (pc' := 98) (0) tb_X3_countByTrying r_X3_countByTrying_97 rfl rfl ?_
        refine b_st (pc' := 100) [(7, .inl 0), (6, .inl 0), (5, .inl v13), (0, .inr (.inr (.inl 19))), (1, .inl a1), (2, .inl a2), (3, .inl v7), (4, .inl x8)] tb_X3_countByTrying r_X3_countByTrying_98 rfl rfl rfl rfl ?_
        refine lp_in (R := fun (j100 : (Nat → Nat → Nat → RN)) => ∀ (x14 x15 M16 : Nat), j100 x14 x15 M16 = some r → SN l g D sl 37 0 q q 45 100 [(0, .inr (.inr (.inl 19))), (1, .inl a1), (2, .inl a2), (3, .inl v7), (4, .inl x8), (5, .inl v13), (6, .inl x14), (7, .inl x15)] [] M16 (PR r)) h (fun _ _ _ h => by cases h) (fun j100 hj100 => ?_) (fun j100 hj100 h => ?_)
        · intro x14 x15 M16 h
          refine b_il (pc' := 102) (a := .inl x15) tb_X3_countByTrying r_X3_countByTrying_100 rfl rfl rfl ?_
          refine b_il (pc' := 104) (a := .inl x8) tb_X3_countByTrying r_X3_countByTrying_102 rfl rfl rfl ?_
          rcases bK_in h with ⟨c1, h⟩ | ⟨c1, h⟩
          · refine b_icT (t := 170) tb_X3_countByTrying r_X3_countByTrying_104 rfl ((nGe_c _ _).symm.trans c1) ?_
            refine b_il (pc' := 172) (a := .inl x14) tb_X3_countByTrying r_X3_countByTrying_170 rfl rfl rfl ?_
            exact b_ri tb_X3_countByTrying r_X3_countByTrying_172 rfl (sj h).symm
          · refine b_icF (t := 170) (pc' := 107) tb_X3_countByTrying r_X3_countByTrying_104 rfl ((nGe_c _ _).symm.trans c1) rfl ?_
            refine b_aln (pc' := 108) (a := .inr (.inr (.inl 19))) tb_X3_countByTrying r_X3_countByTrying_107 rfl rfl rfl ?_
            refine b_gr (pc' := 111) tb_X3_countByTrying r_X3_countByTrying_108 tF_19_3_0 rfl ?_
            refine b_il (pc' := 113) (a := .inl v13) tb_X3_countByTrying r_X3_countByTrying_111 rfl rfl rfl ?_
            obtain ⟨M17, cM17, h⟩ := pK_in h
            refine b_pi (pc' := 116) tb_X3_countByTrying r_X3_countByTrying_113 rfl tF_11_8_2 cM17 rfl ?_
            refine b_aln (pc' := 117) (a := .inr (.inr (.inl 19))) tb_X3_countByTrying r_X3_countByTrying_116 rfl rfl rfl ?_
            refine b_il (pc' := 119) (a := .inl x15) tb_X3_countByTrying r_X3_countByTrying_117 rfl rfl rfl ?_
            refine b_iln (pc' := 120) (a := .inl v7) tb_X3_countByTrying r_X3_countByTrying_119 rfl rfl rfl ?_
            obtain ⟨v19, M18, ov19, h⟩ := cI_in h
            refine b_vI (pc' := 123) tb_X3_countByTrying r_X3_countByTrying_120 tb_X3_giveWay mo_X3_giveWay (by decide) rfl rfl ov19 (fun r hr => snd_X3_giveWay hr) (by decide) rfl rfl rfl ?_
            refine jn_in (R := fun (j164 : (Nat → Nat → RN)) => ∀ (x20 M21 : Nat), j164 x20 M21 = some r → SN l g D sl 37 0 q q 45 164 [(0, .inr (.inr (.inl 19))), (1, .inl a1), (2, .inl a2), (3, .inl v7), (4, .inl x8), (5, .inl v13), (6, .inl x20), (7, .inl x15)] [] M21 (PR r)) h (fun x20 M21 h => ?_) (fun j164 hj164 h => ?_)
            · skip
              refine b_inc (pc' := 167) (v := x15) (n := 1) [(7, .inl (oAdd x15 1)), (0, .inr (.inr (.inl 19))), (1, .inl a1), (2, .inl a2), (3, .inl v7), (4, .inl x8), (5, .inl v13), (6, .inl x20)] tb_X3_countByTrying r_X3_countByTrying_164 rfl rfl rfl rfl rfl ?_
              obtain ⟨v22, ev22, h⟩ := fK_v h
              rw [ev22]
              refine b_goto (pc' := 100) tb_X3_countByTrying r_X3_countByTrying_167 rfl ?_
              refine b_sub9 [(0, .inr (.inr (.inl 19))), (1, .inl a1), (2, .inl a2), (3, .inl v7), (4, .inl x8), (5, .inl v13), (6, .inl x20), (7, .inl v22)] ⟨rfl, rfl, rfl, rfl, rfl, rfl, rfl, rfl, trivial⟩ ?_
              exact hj100 _ _ _ h
            rcases bK_in h with ⟨c1, h⟩ | ⟨c1, h⟩
            · refine b_ifT (t := 164) tb_X3_countByTrying r_X3_countByTrying_123 rfl ((zEq_c _).symm.trans c1) ?_
              exact hj164 _ _ h
            · refine b_ifF (t := 164) (pc' := 126) tb_X3_countByTrying r_X3_countByTrying_123 rfl ((zEq_c _).symm.trans c1) rfl ?_
              refine b_aln (pc' := 127) (a := .inr (.inr (.inl 19))) tb_X3_countByTrying r_X3_countByTrying_126 rfl rfl rfl ?_
              refine b_gr (pc' := 130) tb_X3_countByTrying r_X3_countByTrying_127 tF_19_3_0 rfl ?_
              refine b_iln (pc' := 131) (a := .inl a1) tb_X3_countByTrying r_X3_countByTrying_130 rfl rfl rfl ?_
              obtain ⟨v24, M23, ov24, h⟩ := cI_in h
              refine b_vI (pc' := 134) tb_X3_countByTrying r_X3_countByTrying_131 tb_X8_rebuild mo_X8_rebuild (by decide) rfl rfl ov24 (fun r hr => snd_X8_rebuild _ hr) (by decide) rfl rfl rfl ?_
              refine b_st (pc' := 136) [(8, .inl v24), (0, .inr (.inr (.inl 19))), (1, .inl a1), (2, .inl a2), (3, .inl v7), (4, .inl x8), (5, .inl v13), (6, .inl x14), (7, .inl x15)] tb_X3_countByTrying r_X3_countByTrying_134 rfl rfl rfl rfl ?_
              refine b_il (pc' := 138) (a := .inl x14) tb_X3_countByTrying r_X3_countByTrying_136 rfl rfl rfl ?_
              refine b_il (pc' := 140) (a := .inl v24) tb_X3_countByTrying r_X3_countByTrying_138 rfl rfl rfl ?_
              refine jn_in (R := fun (j161 : (Nat → Nat → Nat → RN)) => ∀ (s25 s26 M27 : Nat), j161 s25 s26 M27 = some r → SN l g D sl 37 0 q q 45 161 [(0, .inr (.inr (.inl 19))), (1, .inl a1), (2, .inl a2), (3, .inl v7), (4, .inl x8), (5, .inl v13), (7, .inl x15)] [.inl s25, .inl s26] M27 (PR r)) h (fun s25 s26 M27 h => ?_) (fun j161 hj161 h => ?_)
              · skip
                refine b_add (pc' := 162) tb_X3_countByTrying r_X3_countByTrying_161 rfl ?_
                obtain ⟨v28, ev28, h⟩ := fK_v h
                rw [ev28]
                refine b_st (pc' := 164) [(6, .inl v28), (0, .inr (.inr (.inl 19))), (1, .inl a1), (2, .inl a2), (3, .inl v7), (4, .inl x8), (5, .inl v13), (7, .inl x15)] tb_X3_countByTrying r_X3_countByTrying_162 rfl rfl rfl rfl ?_
                refine b_sub9 [(0, .inr (.inr (.inl 19))), (1, .inl a1), (2, .inl a2), (3, .inl v7), (4, .inl x8), (5, .inl v13), (6, .inl v28), (7, .inl x15)] ⟨rfl, rfl, rfl, rfl, rfl, rfl, rfl, rfl, trivial⟩ ?_
                exact hj164 _ _ h
              refine jn_in (R := fun (j160 : (Nat → Nat → RN)) => ∀ (s29 M30 : Nat), j160 s29 M30 = some r → SN l g D sl 37 0 q q 45 160 [(0, .inr (.inr (.inl 19))), (1, .inl a1), (2, .inl a2), (3, .inl v7), (4, .inl x8), (5, .inl v13), (7, .inl x15)] [.inl s29] M30 (PR r)) h (fun s29 M30 h => ?_) (fun j160 hj160 h => ?_)
              · skip
                refine b_ic (pc' := 161) (0) tb_X3_countByTrying r_X3_countByTrying_160 rfl rfl ?_
                exact hj161 _ _ _ h
              rcases bK_in h with ⟨c1, h⟩ | ⟨c1, h⟩
              · refine b_ifT (t := 160) tb_X3_countByTrying r_X3_countByTrying_140 rfl ((zLt_c _).symm.trans c1) ?_
                refine b_sub9 [(0, .inr (.inr (.inl 19))), (1, .inl a1), (2, .inl a2), (3, .inl v7), (4, .inl x8), (5, .inl v13), (7, .inl x15)] ⟨rfl, rfl, rfl, rfl, rfl, rfl, rfl, trivial⟩ ?_
                exact hj160 _ _ h
              · refine b_ifF (t := 160) (pc' := 143) tb_X3_countByTrying r_X3_countByTrying_140 rfl ((zLt_c _).symm.trans c1) rfl ?_
                refine b_aln (pc' := 144) (a := .inr (.inr (.inl 19))) tb_X3_countByTrying r_X3_countByTrying_143 rfl rfl rfl ?_
                refine b_gr (pc' := 147) tb_X3_countByTrying r_X3_countByTrying_144 tF_19_3_0 rfl ?_
                refine b_il (pc' := 149) (a := .inl v24) tb_X3_countByTrying r_X3_countByTrying_147 rfl rfl rfl ?_
                refine b_iln (pc' := 150) (a := .inl a2) tb_X3_countByTrying r_X3_countByTrying_149 rfl rfl rfl ?_
                obtain ⟨v32, M31, ov32, h⟩ := cI_in h
                refine b_vI (pc' := 153) tb_X3_countByTrying r_X3_countByTrying_150 tb_X8_order mo_X8_order (by decide) rfl rfl ov32 (fun r hr => snd_X8_order hr) (by decide) rfl rfl rfl ?_
                rcases bK_in h with ⟨c1, h⟩ | ⟨c1, h⟩
                · refine b_ifT (t := 160) tb_X3_countByTrying r_X3_countByTrying_153 rfl ((zNe_c _).symm.trans c1) ?_
                  refine b_sub9 [(0, .inr (.inr (.inl 19))), (1, .inl a1), (2, .inl a2), (3, .inl v7), (4, .inl x8), (5, .inl v13), (7, .inl x15)] ⟨rfl, rfl, rfl, rfl, rfl, rfl, rfl, trivial⟩ ?_
                  exact hj160 _ _ h
                · refine b_ifF (t := 160) (pc' := 156) tb_X3_countByTrying r_X3_countByTrying_153 rfl ((zNe_c _).symm.trans c1) rfl ?_
                  refine b_ic (pc' := 157) (1) tb_X3_countByTrying r_X3_countByTrying_156 rfl rfl ?_
                  refine b_goto (pc' := 161) tb_X3_countByTrying r_X3_countByTrying_157 rfl ?_
                  refine b_sub9 [(0, .inr (.inr (.inl 19))), (1, .inl a1), (2, .inl a2), (3, .inl v7), (4, .inl x8), (5, .inl v13), (7, .inl x15)] ⟨rfl, rfl, rfl, rfl, rfl, rfl, rfl, trivial⟩ ?_
                  exact hj161 _ _ _ h
        refine b_sub9 [(0, .inr (.inr (.inl 19))), (1, .inl a1), (2, .inl a2), (3, .inl v7), (4, .inl x8), (5, .inl v13), (6, .inl 0), (7, .inl 0)] ⟨rfl, rfl, rfl, rfl, rfl, rfl, rfl, rfl, trivial⟩ ?_
        exact hj100 _ _ _ h
      · refine b_icF (t := 85) (pc' := 67) tb_X3_countByTrying r_X3_countByTrying_64 rfl ((nGe_c _ _).symm.trans c1) rfl ?_
        refine b_il (pc' := 69) (a := .inl x8) tb_X3_countByTrying r_X3_countByTrying_67 rfl rfl rfl ?_
        refine b_aln (pc' := 70) (a := .inr (.inr (.inl 19))) tb_X3_countByTrying r_X3_countByTrying_69 rfl rfl rfl ?_
        refine b_gr (pc' := 73) tb_X3_countByTrying r_X3_countByTrying_70 tF_19_3_2 rfl ?_
        obtain ⟨v33, cv33, h⟩ := rK_in h
        refine b_gi (pc' := 76) tb_X3_countByTrying r_X3_countByTrying_73 tF_28_4_9 cv33 rfl ?_
        refine b_mul (pc' := 77) tb_X3_countByTrying r_X3_countByTrying_76 rfl ?_
        obtain ⟨v34, ev34, h⟩ := fK_v h
        rw [ev34]
        refine b_st (pc' := 79) [(4, .inl v34), (0, .inr (.inr (.inl 19))), (1, .inl a1), (2, .inl a2), (3, .inl v7), (5, .inl x9)] tb_X3_countByTrying r_X3_countByTrying_77 rfl rfl rfl rfl ?_
        refine b_inc (pc' := 82) (v := x9) (n := 1) [(5, .inl (oAdd x9 1)), (4, .inl v34), (0, .inr (.inr (.inl 19))), (1, .inl a1), (2, .inl a2), (3, .inl v7)] tb_X3_countByTrying r_X3_countByTrying_79 rfl rfl rfl rfl rfl ?_
        obtain ⟨v35, ev35, h⟩ := fK_v h
        rw [ev35]
        refine b_goto (pc' := 58) tb_X3_countByTrying r_X3_countByTrying_82 rfl ?_
        refine b_sub9 [(0, .inr (.inr (.inl 19))), (1, .inl a1), (2, .inl a2), (3, .inl v7), (4, .inl v34), (5, .inl v35)] ⟨rfl, rfl, rfl, rfl, rfl, rfl, trivial⟩ ?_
        exact hj58 _ _ _ h
    refine b_sub9 [(0, .inr (.inr (.inl 19))), (1, .inl a1), (2, .inl a2), (3, .inl v7), (4, .inl 1), (5, .inl 0)] ⟨rfl, rfl, rfl, rfl, rfl, rfl, trivial⟩ ?_
    exact hj58 _ _ _ h
  · refine b_icF (t := 43) (pc' := 41) tb_X3_countByTrying r_X3_countByTrying_38 rfl ((nLe_c _ _).symm.trans c1) rfl ?_
    refine b_ic (pc' := 42) (4294967295) tb_X3_countByTrying r_X3_countByTrying_41 rfl rfl ?_
    exact b_ri tb_X3_countByTrying r_X3_countByTrying_42 rfl (sj h).symm
noncomputable def m_X10_matchesAnew (M0 : Nat) : RN :=
  cI (m_X10_hasPatternAndSubject M0) (fun v2 M1 => bK (zNe v2) (cV (m_X8_startAnew M1) (fun M12 => rK M12 0 (fun v13 => fK (oSub v13 2) (fun v14 => cI (m_X10_stackAt v14 M12) (fun v16 M15 => cI (m_X10_topAt M15) (fun v18 M17 => cI (m_X3_countByTrying v16 v18 M17) (fun v20 M19 => some (Nat.add v20 2, M19)))))))) none)
set_option maxRecDepth 100000 in
theorem snd_X10_matchesAnew {l : Launch} {g : GV} {D : va_G} {sl q : Nat} {M0 : Nat} {r : Nat × Nat} (h : m_X10_matchesAnew M0 = some r) : SN l g D sl 38 0 q q 80 0 [(0, .inr (.inr (.inl 0)))] [] M0 (PR r) := by
  unfold m_X10_matchesAnew at h
  refine b_aln (pc' := 1) (a := .inr (.inr (.inl 0))) tb_X10_matchesAnew r_X10_matchesAnew_0 rfl rfl rfl ?_
  obtain ⟨v2, M1, ov2, h⟩ := cI_in h
  refine b_vI (pc' := 4) tb_X10_matchesAnew r_X10_matchesAnew_1 tb_X10_hasPatternAndSubject mo_X10_hasPatternAndSubject (by decide) rfl rfl ov2 (fun r hr => snd_X10_hasPatternAndSubject hr) (by decide) rfl rfl rfl ?_
  obtain ⟨c1, h⟩ := bK_t h
  refine b_ifT (t := 17) tb_X10_matchesAnew r_X10_matchesAnew_4 rfl ((zNe_c _).symm.trans c1) ?_
  refine b_aln (pc' := 18) (a := .inr (.inr (.inl 0))) tb_X10_matchesAnew r_X10_matchesAnew_17 rfl rfl rfl ?_
  refine b_gr (pc' := 21) tb_X10_matchesAnew r_X10_matchesAnew_18 tF_0_10_1 rfl ?_
  obtain ⟨M12, oM12, h⟩ := cV_in h
  refine b_vV (pc' := 24) tb_X10_matchesAnew r_X10_matchesAnew_21 tb_X8_startAnew mo_X8_startAnew (by decide) rfl rfl oM12 (fun r hr => snd_X8_startAnew hr) (by decide) rfl rfl rfl ?_
  refine b_aln (pc' := 25) (a := .inr (.inr (.inl 0))) tb_X10_matchesAnew r_X10_matchesAnew_24 rfl rfl rfl ?_
  refine b_gr (pc' := 28) tb_X10_matchesAnew r_X10_matchesAnew_25 tF_0_10_3 rfl ?_
  refine b_aln (pc' := 29) (a := .inr (.inr (.inl 0))) tb_X10_matchesAnew r_X10_matchesAnew_28 rfl rfl rfl ?_
  obtain ⟨v13, cv13, h⟩ := rK_in h
  refine b_gi (pc' := 32) tb_X10_matchesAnew r_X10_matchesAnew_29 tF_0_10_8 cv13 rfl ?_
  refine b_ic (pc' := 33) (2) tb_X10_matchesAnew r_X10_matchesAnew_32 rfl rfl ?_
  refine b_sub (pc' := 34) tb_X10_matchesAnew r_X10_matchesAnew_33 rfl ?_
  obtain ⟨v14, ev14, h⟩ := fK_v h
  rw [ev14]
  obtain ⟨v16, M15, ov16, h⟩ := cI_in h
  refine b_sI (pc' := 37) tb_X10_matchesAnew r_X10_matchesAnew_34 tb_X10_stackAt mo_X10_stackAt (by decide) rfl rfl ov16 (fun r hr => snd_X10_stackAt hr) (by decide) rfl rfl rfl ?_
  refine b_aln (pc' := 38) (a := .inr (.inr (.inl 0))) tb_X10_matchesAnew r_X10_matchesAnew_37 rfl rfl rfl ?_
  obtain ⟨v18, M17, ov18, h⟩ := cI_in h
  refine b_vI (pc' := 41) tb_X10_matchesAnew r_X10_matchesAnew_38 tb_X10_topAt mo_X10_topAt (by decide) rfl rfl ov18 (fun r hr => snd_X10_topAt hr) (by decide) rfl rfl rfl ?_
  obtain ⟨v20, M19, ov20, h⟩ := cI_in h
  refine b_vI (pc' := 44) tb_X10_matchesAnew r_X10_matchesAnew_41 tb_X3_countByTrying mo_X3_countByTrying (by decide) rfl rfl ov20 (fun r hr => snd_X3_countByTrying hr) (by decide) rfl rfl rfl ?_
  exact b_ri tb_X10_matchesAnew r_X10_matchesAnew_44 rfl (sj h).symm
noncomputable def m_X3_giveMatch (a1 a2 a3 : Nat) (M0 : Nat) : RN :=
  cI (m_X8_variablesAt a1 M0) (fun v2 M1 => lK2 M1 281 780 7500 7656 a2 (fun v3 => cV (m_X8_giveNothing M1) (fun M4 => lp (fun _ _ _ => none) (fun (j32 : (Nat → Nat →  Nat → RN)) => fun (x5 : Nat) (x6 : Nat) (M7 : Nat) => bK (zLt x6) (some (1, M7)) (hK v2 x6 (fun v8 => jn (fun (x9 : Nat) (M10 : Nat) => fK (oAdd x6 4294967295) (fun v11 => j32 x9 v11 M10)) (fun (j82 : (Nat →  Nat → RN)) => bK (nNe (oAnd v8 1) 1) (j82 x5 M7) (dvK Nat.mod x5 256 (fun v12 => fK (oAdd a3 v12) (fun v13 => lK2 M7 281 780 7500 7656 v13 (fun v14 => sK M7 1230 20 x6 v14 (fun M15 => dvK Nat.div x5 256 (fun v16 => j82 v16 M15)))))))))) (fun (j32 : (Nat → Nat →  Nat → RN)) => j32 v3 9 M4))))
set_option maxRecDepth 100000 in
theorem snd_X3_giveMatch {l : Launch} {g : GV} {D : va_G} {sl q : Nat} {a1 a2 a3 M0 : Nat} {r : Nat × Nat} (h : m_X3_giveMatch a1 a2 a3 M0 = some r) : SN l g D sl 3 0 q q 47 0 [(0, .inr (.inr (.inl 19))), (1, .inl a1), (2, .inl a2), (3, .inl a3)] [] M0 (PR r) := by
  unfold m_X3_giveMatch at h
  refine b_aln (pc' := 1) (a := .inr (.inr (.inl 19))) tb_X3_giveMatch r_X3_giveMatch_0 rfl rfl rfl ?_
  refine b_gr (pc' := 4) tb_X3_giveMatch r_X3_giveMatch_1 tF_19_3_0 rfl ?_
  refine b_iln (pc' := 5) (a := .inl a1) tb_X3_giveMatch r_X3_giveMatch_4 rfl rfl rfl ?_
  obtain ⟨v2, M1, ov2, h⟩ := cI_in h
  refine b_vI (pc' := 8) tb_X3_giveMatch r_X3_giveMatch_5 tb_X8_variablesAt mo_X8_variablesAt (by decide) rfl rfl ov2 (fun r hr => snd_X8_variablesAt hr) (by decide) rfl rfl rfl ?_
  refine b_st (pc' := 10) [(4, .inl v2), (0, .inr (.inr (.inl 19))), (1, .inl a1), (2, .inl a2), (3, .inl a3)] tb_X3_giveMatch r_X3_giveMatch_8 rfl rfl rfl rfl ?_
  refine b_aln (pc' := 11) (a := .inr (.inr (.inl 19))) tb_X3_giveMatch r_X3_giveMatch_10 rfl rfl rfl ?_
  refine b_gr (pc' := 14) tb_X3_giveMatch r_X3_giveMatch_11 tF_19_3_0 rfl ?_
  refine b_gr (pc' := 17) tb_X3_giveMatch r_X3_giveMatch_14 tF_11_8_1 rfl ?_
  refine b_iln (pc' := 18) (a := .inl a2) tb_X3_giveMatch r_X3_giveMatch_17 rfl rfl rfl ?_
  obtain ⟨v3, _, dv3, cv3, h⟩ := lK2_in h
  refine b_ia2 (pc' := 19) tb_X3_giveMatch r_X3_giveMatch_18 tA_12 dv3 cv3 rfl ?_
  refine b_st (pc' := 21) [(5, .inl v3), (4, .inl v2), (0, .inr (.inr (.inl 19))), (1, .inl a1), (2, .inl a2), (3, .inl a3)] tb_X3_giveMatch r_X3_giveMatch_19 rfl rfl rfl rfl ?_
  refine b_aln (pc' := 22) (a := .inr (.inr (.inl 19))) tb_X3_giveMatch r_X3_giveMatch_21 rfl rfl rfl ?_
  refine b_gr (pc' := 25) tb_X3_giveMatch r_X3_giveMatch_22 tF_19_3_0 rfl ?_
  obtain ⟨M4, oM4, h⟩ := cV_in h
  refine b_vV (pc' := 28) tb_X3_giveMatch r_X3_giveMatch_25 tb_X8_giveNothing mo_X8_giveNothing (by decide) rfl rfl oM4 (fun r hr => snd_X8_giveNothing hr) (by decide) rfl rfl rfl ?_
  refine b_bi (pc' := 30) (9) tb_X3_giveMatch r_X3_giveMatch_28 rfl rfl rfl ?_
  refine b_st (pc' := 32) [(6, .inl 9), (5, .inl v3), (4, .inl v2), (0, .inr (.inr (.inl 19))), (1, .inl a1), (2, .inl a2), (3, .inl a3)] tb_X3_giveMatch r_X3_giveMatch_30 rfl rfl rfl rfl ?_
  refine lp_in (R := fun (j32 : (Nat → Nat → Nat → RN)) => ∀ (x5 x6 M7 : Nat), j32 x5 x6 M7 = some r → SN l g D sl 3 0 q q 47 32 [(0, .inr (.inr (.inl 19))), (3, .inl a3), (4, .inl v2), (5, .inl x5), (6, .inl x6)] [] M7 (PR r)) h (fun _ _ _ h => by cases h) (fun j32 hj32 => ?_) (fun j32 hj32 h => ?_)
  · intro x5 x6 M7 h
    refine b_il (pc' := 34) (a := .inl x6) tb_X3_giveMatch r_X3_giveMatch_32 rfl rfl rfl ?_
    rcases bK_in h with ⟨c1, h⟩ | ⟨c1, h⟩
    · refine b_ifT (t := 88) tb_X3_giveMatch r_X3_giveMatch_34 rfl ((zLt_c _).symm.trans c1) ?_
      exact b_vo tb_X3_giveMatch r_X3_giveMatch_88 (sj h).symm
    · refine b_ifF (t := 88) (pc' := 37) tb_X3_giveMatch r_X3_giveMatch_34 rfl ((zLt_c _).symm.trans c1) rfl ?_
      refine b_il (pc' := 39) (a := .inl v2) tb_X3_giveMatch r_X3_giveMatch_37 rfl rfl rfl ?_
      refine b_il (pc' := 41) (a := .inl x6) tb_X3_giveMatch r_X3_giveMatch_39 rfl rfl rfl ?_
      obtain ⟨v8, c1, ev8, h⟩ := hK_in h
      refine b_shr (pc' := 42) tb_X3_giveMatch r_X3_giveMatch_41 c1 ev8 rfl ?_
      refine b_ic (pc' := 43) (1) tb_X3_giveMatch r_X3_giveMatch_42 rfl rfl ?_
      refine b_and (pc' := 44) tb_X3_giveMatch r_X3_giveMatch_43 rfl ?_
      refine b_ic (pc' := 45) (1) tb_X3_giveMatch r_X3_giveMatch_44 rfl rfl ?_
      refine jn_in (R := fun (j82 : (Nat → Nat → RN)) => ∀ (x9 M10 : Nat), j82 x9 M10 = some r → SN l g D sl 3 0 q q 47 82 [(0, .inr (.inr (.inl 19))), (3, .inl a3), (4, .inl v2), (5, .inl x9), (6, .inl x6)] [] M10 (PR r)) h (fun x9 M10 h => ?_) (fun j82 hj82 h => ?_)
      · skip
        refine b_inc (pc' := 85) (v := x6) (n := 4294967295) [(6, .inl (oAdd x6 4294967295)), (0, .inr (.inr (.inl 19))), (3, .inl a3), (4, .inl v2), (5, .inl x9)] tb_X3_giveMatch r_X3_giveMatch_82 rfl rfl rfl rfl rfl ?_
        obtain ⟨v11, ev11, h⟩ := fK_v h
        rw [ev11]
        refine b_goto (pc' := 32) tb_X3_giveMatch r_X3_giveMatch_85 rfl ?_
        refine b_sub9 [(0, .inr (.inr (.inl 19))), (3, .inl a3), (4, .inl v2), (5, .inl x9), (6, .inl v11)] ⟨rfl, rfl, rfl, rfl, rfl, trivial⟩ ?_
        exact hj32 _ _ _ h
      rcases bK_in h with ⟨c1, h⟩ | ⟨c1, h⟩
      · refine b_icT (t := 82) tb_X3_giveMatch r_X3_giveMatch_45 rfl ((nNe_c _ _).symm.trans c1) ?_
        exact hj82 _ _ h
      · refine b_icF (t := 82) (pc' := 48) tb_X3_giveMatch r_X3_giveMatch_45 rfl ((nNe_c _ _).symm.trans c1) rfl ?_
        refine b_aln (pc' := 49) (a := .inr (.inr (.inl 19))) tb_X3_giveMatch r_X3_giveMatch_48 rfl rfl rfl ?_
        refine b_gr (pc' := 52) tb_X3_giveMatch r_X3_giveMatch_49 tF_19_3_0 rfl ?_
        refine b_gr (pc' := 55) tb_X3_giveMatch r_X3_giveMatch_52 tF_11_8_7 rfl ?_
        refine b_il (pc' := 57) (a := .inl x6) tb_X3_giveMatch r_X3_giveMatch_55 rfl rfl rfl ?_
        refine b_aln (pc' := 58) (a := .inr (.inr (.inl 19))) tb_X3_giveMatch r_X3_giveMatch_57 rfl rfl rfl ?_
        refine b_gr (pc' := 61) tb_X3_giveMatch r_X3_giveMatch_58 tF_19_3_0 rfl ?_
        refine b_gr (pc' := 64) tb_X3_giveMatch r_X3_giveMatch_61 tF_11_8_1 rfl ?_
        refine b_iln (pc' := 65) (a := .inl a3) tb_X3_giveMatch r_X3_giveMatch_64 rfl rfl rfl ?_
        refine b_il (pc' := 67) (a := .inl x5) tb_X3_giveMatch r_X3_giveMatch_65 rfl rfl rfl ?_
        refine b_si (pc' := 70) (256) tb_X3_giveMatch r_X3_giveMatch_67 rfl rfl rfl ?_
        obtain ⟨v12, c1, c2, c3, ev12, h⟩ := dvK_in h
        refine b_rem (pc' := 71) tb_X3_giveMatch r_X3_giveMatch_70 c1 c2 c3 ev12 rfl ?_
        refine b_add (pc' := 72) tb_X3_giveMatch r_X3_giveMatch_71 rfl ?_
        obtain ⟨v13, ev13, h⟩ := fK_v h
        rw [ev13]
        obtain ⟨v14, _, dv14, cv14, h⟩ := lK2_in h
        refine b_ia2 (pc' := 73) tb_X3_giveMatch r_X3_giveMatch_72 tA_12 dv14 cv14 rfl ?_
        obtain ⟨M15, dM15, cM15, h⟩ := sK_in h
        refine b_is (pc' := 74) tb_X3_giveMatch r_X3_giveMatch_73 tA_16 dM15 cM15 rfl ?_
        refine b_il (pc' := 76) (a := .inl x5) tb_X3_giveMatch r_X3_giveMatch_74 rfl rfl rfl ?_
        refine b_si (pc' := 79) (256) tb_X3_giveMatch r_X3_giveMatch_76 rfl rfl rfl ?_
        obtain ⟨v16, c1, c2, c3, ev16, h⟩ := dvK_in h
        refine b_div (pc' := 80) tb_X3_giveMatch r_X3_giveMatch_79 c1 c2 c3 ev16 rfl ?_
        refine b_st (pc' := 82) [(5, .inl v16), (0, .inr (.inr (.inl 19))), (3, .inl a3), (4, .inl v2), (6, .inl x6)] tb_X3_giveMatch r_X3_giveMatch_80 rfl rfl rfl rfl ?_
        refine b_sub9 [(0, .inr (.inr (.inl 19))), (3, .inl a3), (4, .inl v2), (5, .inl v16), (6, .inl x6)] ⟨rfl, rfl, rfl, rfl, rfl, trivial⟩ ?_
        exact hj82 _ _ h
  refine b_sub9 [(0, .inr (.inr (.inl 19))), (3, .inl a3), (4, .inl v2), (5, .inl v3), (6, .inl 9)] ⟨rfl, rfl, rfl, rfl, rfl, trivial⟩ ?_
  exact hj32 _ _ _ h
