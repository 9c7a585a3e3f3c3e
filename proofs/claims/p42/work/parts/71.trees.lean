/-! more of them -/
noncomputable def m_X10_push (a1 : Nat) (M0 : Nat) : RN :=
  rK M0 0 (fun v1 => cI (m_X10_stackAt v1 M0) (fun v3 M2 => cV (m_X8_store a1 v3 M2) (fun M4 => rK M4 0 (fun v5 => pK M4 0 (oAdd v5 1) (fun M6 => rK M6 0 (fun v7 => some (Nat.add v7 2, M6)))))))
set_option maxRecDepth 100000 in
theorem snd_X10_push {l : Launch} {g : GV} {D : va_G} {sl q : Nat} {a1 M0 : Nat} {r : Nat × Nat} (h : m_X10_push a1 M0 = some r) : SN l g D sl 3 0 q q 15 0 [(0, .inr (.inr (.inl 0))), (1, .inl a1)] [] M0 (PR r) := by
  unfold m_X10_push at h
  refine b_aln (pc' := 1) (a := .inr (.inr (.inl 0))) tb_X10_push r_X10_push_0 rfl rfl rfl ?_
  refine b_gr (pc' := 4) tb_X10_push r_X10_push_1 tF_0_10_1 rfl ?_
  refine b_iln (pc' := 5) (a := .inl a1) tb_X10_push r_X10_push_4 rfl rfl rfl ?_
  refine b_aln (pc' := 6) (a := .inr (.inr (.inl 0))) tb_X10_push r_X10_push_5 rfl rfl rfl ?_
  obtain ⟨v1, cv1, h⟩ := rK_in h
  refine b_gi (pc' := 9) tb_X10_push r_X10_push_6 tF_0_10_8 cv1 rfl ?_
  obtain ⟨v3, M2, ov3, h⟩ := cI_in h
  refine b_sI (pc' := 12) tb_X10_push r_X10_push_9 tb_X10_stackAt mo_X10_stackAt (by decide) rfl rfl ov3 (fun r hr => snd_X10_stackAt hr) (by decide) rfl rfl rfl ?_
  obtain ⟨M4, oM4, h⟩ := cV_in h
  refine b_vV (pc' := 15) tb_X10_push r_X10_push_12 tb_X8_store mo_X8_store (by decide) rfl rfl oM4 (fun r hr => snd_X8_store hr) (by decide) rfl rfl rfl ?_
  refine b_aln (pc' := 16) (a := .inr (.inr (.inl 0))) tb_X10_push r_X10_push_15 rfl rfl rfl ?_
  refine b_dup (pc' := 17) tb_X10_push r_X10_push_16 rfl rfl ?_
  obtain ⟨v5, cv5, h⟩ := rK_in h
  refine b_gi (pc' := 20) tb_X10_push r_X10_push_17 tF_0_10_8 cv5 rfl ?_
  refine b_ic (pc' := 21) (1) tb_X10_push r_X10_push_20 rfl rfl ?_
  refine b_add (pc' := 22) tb_X10_push r_X10_push_21 rfl ?_
  obtain ⟨M6, cM6, h⟩ := pK_in h
  refine b_pi (pc' := 25) tb_X10_push r_X10_push_22 rfl tF_0_10_8 cM6 rfl ?_
  refine b_aln (pc' := 26) (a := .inr (.inr (.inl 0))) tb_X10_push r_X10_push_25 rfl rfl rfl ?_
  obtain ⟨v7, cv7, h⟩ := rK_in h
  refine b_gi (pc' := 29) tb_X10_push r_X10_push_26 tF_0_10_8 cv7 rfl ?_
  exact b_ri tb_X10_push r_X10_push_29 rfl (sj h).symm
noncomputable def m_X8_await (a1 : Nat) (M0 : Nat) : RN :=
  rK M0 277 (fun v1 => jn (fun (M2 : Nat) => some (1, M2)) (fun (j30 : ( Nat → RN)) => bK (nGe v1 1280) (j30 M0) (rK M0 277 (fun v3 => sK M0 1217 3 v3 a1 (fun M4 => rK M4 277 (fun v5 => pK M4 277 (oAdd v5 1) (fun M6 => j30 M6)))))))
set_option maxRecDepth 100000 in
theorem snd_X8_await {l : Launch} {g : GV} {D : va_G} {sl q : Nat} {a1 M0 : Nat} {r : Nat × Nat} (h : m_X8_await a1 M0 = some r) : SN l g D sl 1 0 q q 19 0 [(0, .inr (.inr (.inl 11))), (1, .inl a1)] [] M0 (PR r) := by
  unfold m_X8_await at h
  refine b_aln (pc' := 1) (a := .inr (.inr (.inl 11))) tb_X8_await r_X8_await_0 rfl rfl rfl ?_
  obtain ⟨v1, cv1, h⟩ := rK_in h
  refine b_gi (pc' := 4) tb_X8_await r_X8_await_1 tF_11_8_4 cv1 rfl ?_
  refine b_si (pc' := 7) (1280) tb_X8_await r_X8_await_4 rfl rfl rfl ?_
  refine jn_in (R := fun (j30 : ( Nat → RN)) => ∀ (M2 : Nat), j30 M2 = some r → SN l g D sl 1 0 q q 19 30 [] [] M2 (PR r)) h (fun M2 h => ?_) (fun j30 hj30 h => ?_)
  · skip
    exact b_vo tb_X8_await r_X8_await_30 (sj h).symm
  rcases bK_in h with ⟨c1, h⟩ | ⟨c1, h⟩
  · refine b_icT (t := 30) tb_X8_await r_X8_await_7 rfl ((nGe_c _ _).symm.trans c1) ?_
    refine b_sub9 [] trivial ?_
    exact hj30 _ h
  · refine b_icF (t := 30) (pc' := 10) tb_X8_await r_X8_await_7 rfl ((nGe_c _ _).symm.trans c1) rfl ?_
    refine b_aln (pc' := 11) (a := .inr (.inr (.inl 11))) tb_X8_await r_X8_await_10 rfl rfl rfl ?_
    refine b_gr (pc' := 14) tb_X8_await r_X8_await_11 tF_11_8_3 rfl ?_
    refine b_aln (pc' := 15) (a := .inr (.inr (.inl 11))) tb_X8_await r_X8_await_14 rfl rfl rfl ?_
    obtain ⟨v3, cv3, h⟩ := rK_in h
    refine b_gi (pc' := 18) tb_X8_await r_X8_await_15 tF_11_8_4 cv3 rfl ?_
    refine b_iln (pc' := 19) (a := .inl a1) tb_X8_await r_X8_await_18 rfl rfl rfl ?_
    obtain ⟨M4, dM4, cM4, h⟩ := sK_in h
    refine b_is (pc' := 20) tb_X8_await r_X8_await_19 tA_13 dM4 cM4 rfl ?_
    refine b_aln (pc' := 21) (a := .inr (.inr (.inl 11))) tb_X8_await r_X8_await_20 rfl rfl rfl ?_
    refine b_dup (pc' := 22) tb_X8_await r_X8_await_21 rfl rfl ?_
    obtain ⟨v5, cv5, h⟩ := rK_in h
    refine b_gi (pc' := 25) tb_X8_await r_X8_await_22 tF_11_8_4 cv5 rfl ?_
    refine b_ic (pc' := 26) (1) tb_X8_await r_X8_await_25 rfl rfl ?_
    refine b_add (pc' := 27) tb_X8_await r_X8_await_26 rfl ?_
    obtain ⟨M6, cM6, h⟩ := pK_in h
    refine b_pi (pc' := 30) tb_X8_await r_X8_await_27 rfl tF_11_8_4 cM6 rfl ?_
    refine b_sub9 [] trivial ?_
    exact hj30 _ h
noncomputable def m_X10_apply (a1 : Nat) (M0 : Nat) : RN :=
  cI (m_X7_hasOperator a1 M0) (fun v2 M1 => bK (zNe v2) (lK M1 16 12 a1 (fun v46 => rK M1 0 (fun v47 => bK (nLt v47 v46) none (rK M1 0 (fun v48 => bK (nLt (oSub v48 v46) 10) (cV (m_X8_startAnew M1) (fun M69 => rK M69 0 (fun v70 => fK (oSub v70 v46) (fun v71 => lp (fun _ _ => none) (fun (j74 : (Nat →  Nat → RN)) => fun (x72 : Nat) (M73 : Nat) => rK M73 0 (fun v74 => bK (nGe x72 v74) (cI (m_X8_putOn a1 0 M73) (fun v76 M75 => bK (zGe v76) (rK M75 0 (fun v81 => pK M75 0 (oSub v81 v46) (fun M82 => cI (m_X10_push v76 M82) (fun v84 M83 => some (Nat.add v84 2, M83))))) none)) (cI (m_X10_stackAt x72 M73) (fun v86 M85 => cV (m_X8_await v86 M85) (fun M87 => fK (oAdd x72 1) (fun v88 => j74 v88 M87)))))) (fun (j74 : (Nat →  Nat → RN)) => j74 v71 M69))))) none))))) none)
set_option maxRecDepth 100000 in
theorem snd_X10_apply {l : Launch} {g : GV} {D : va_G} {sl q : Nat} {a1 M0 : Nat} {r : Nat × Nat} (h : m_X10_apply a1 M0 = some r) : SN l g D sl 4 0 q q 9 0 [(0, .inr (.inr (.inl 0))), (1, .inl a1)] [] M0 (PR r) := by
  unfold m_X10_apply at h
  refine b_aln (pc' := 1) (a := .inr (.inr (.inl 0))) tb_X10_apply r_X10_apply_0 rfl rfl rfl ?_
  refine b_gr (pc' := 4) tb_X10_apply r_X10_apply_1 tF_0_10_0 rfl ?_
  refine b_iln (pc' := 5) (a := .inl a1) tb_X10_apply r_X10_apply_4 rfl rfl rfl ?_
  obtain ⟨v2, M1, ov2, h⟩ := cI_in h
  refine b_vI (pc' := 8) tb_X10_apply r_X10_apply_5 tb_X7_hasOperator mo_X7_hasOperator (by decide) rfl rfl ov2 (fun r hr => snd_X7_hasOperator hr) (by decide) rfl rfl rfl ?_
  obtain ⟨c1, h⟩ := bK_t h
  refine b_ifT (t := 21) tb_X10_apply r_X10_apply_8 rfl ((zNe_c _).symm.trans c1) ?_
  refine b_aln (pc' := 22) (a := .inr (.inr (.inl 0))) tb_X10_apply r_X10_apply_21 rfl rfl rfl ?_
  refine b_gr (pc' := 25) tb_X10_apply r_X10_apply_22 tF_0_10_0 rfl ?_
  refine b_gr (pc' := 28) tb_X10_apply r_X10_apply_25 tF_1_7_4 rfl ?_
  refine b_iln (pc' := 29) (a := .inl a1) tb_X10_apply r_X10_apply_28 rfl rfl rfl ?_
  obtain ⟨v46, dv46, cv46, h⟩ := lK_in h
  refine b_ia (pc' := 30) tb_X10_apply r_X10_apply_29 tA_4 dv46 cv46 rfl ?_
  refine b_stn (pc' := 31) [(2, .inl v46), (0, .inr (.inr (.inl 0))), (1, .inl a1)] tb_X10_apply r_X10_apply_30 rfl rfl rfl rfl ?_
  refine b_aln (pc' := 32) (a := .inr (.inr (.inl 0))) tb_X10_apply r_X10_apply_31 rfl rfl rfl ?_
  obtain ⟨v47, cv47, h⟩ := rK_in h
  refine b_gi (pc' := 35) tb_X10_apply r_X10_apply_32 tF_0_10_8 cv47 rfl ?_
  refine b_iln (pc' := 36) (a := .inl v46) tb_X10_apply r_X10_apply_35 rfl rfl rfl ?_
  obtain ⟨c1, h⟩ := bK_f h
  refine b_icF (t := 50) (pc' := 39) tb_X10_apply r_X10_apply_36 rfl ((nLt_c _ _).symm.trans c1) rfl ?_
  refine b_aln (pc' := 40) (a := .inr (.inr (.inl 0))) tb_X10_apply r_X10_apply_39 rfl rfl rfl ?_
  obtain ⟨v48, cv48, h⟩ := rK_in h
  refine b_gi (pc' := 43) tb_X10_apply r_X10_apply_40 tF_0_10_8 cv48 rfl ?_
  refine b_iln (pc' := 44) (a := .inl v46) tb_X10_apply r_X10_apply_43 rfl rfl rfl ?_
  refine b_sub (pc' := 45) tb_X10_apply r_X10_apply_44 rfl ?_
  refine b_bi (pc' := 47) (10) tb_X10_apply r_X10_apply_45 rfl rfl rfl ?_
  obtain ⟨c1, h⟩ := bK_t h
  refine b_icT (t := 60) tb_X10_apply r_X10_apply_47 rfl ((nLt_c _ _).symm.trans c1) ?_
  refine b_aln (pc' := 61) (a := .inr (.inr (.inl 0))) tb_X10_apply r_X10_apply_60 rfl rfl rfl ?_
  refine b_gr (pc' := 64) tb_X10_apply r_X10_apply_61 tF_0_10_1 rfl ?_
  obtain ⟨M69, oM69, h⟩ := cV_in h
  refine b_vV (pc' := 67) tb_X10_apply r_X10_apply_64 tb_X8_startAnew mo_X8_startAnew (by decide) rfl rfl oM69 (fun r hr => snd_X8_startAnew hr) (by decide) rfl rfl rfl ?_
  refine b_aln (pc' := 68) (a := .inr (.inr (.inl 0))) tb_X10_apply r_X10_apply_67 rfl rfl rfl ?_
  obtain ⟨v70, cv70, h⟩ := rK_in h
  refine b_gi (pc' := 71) tb_X10_apply r_X10_apply_68 tF_0_10_8 cv70 rfl ?_
  refine b_iln (pc' := 72) (a := .inl v46) tb_X10_apply r_X10_apply_71 rfl rfl rfl ?_
  refine b_sub (pc' := 73) tb_X10_apply r_X10_apply_72 rfl ?_
  obtain ⟨v71, ev71, h⟩ := fK_v h
  rw [ev71]
  refine b_stn (pc' := 74) [(3, .inl v71), (2, .inl v46), (0, .inr (.inr (.inl 0))), (1, .inl a1)] tb_X10_apply r_X10_apply_73 rfl rfl rfl rfl ?_
  refine lp_in (R := fun (j74 : (Nat → Nat → RN)) => ∀ (x72 M73 : Nat), j74 x72 M73 = some r → SN l g D sl 4 0 q q 9 74 [(0, .inr (.inr (.inl 0))), (1, .inl a1), (2, .inl v46), (3, .inl x72)] [] M73 (PR r)) h (fun _ _ h => by cases h) (fun j74 hj74 => ?_) (fun j74 hj74 h => ?_)
  · intro x72 M73 h
    refine b_iln (pc' := 75) (a := .inl x72) tb_X10_apply r_X10_apply_74 rfl rfl rfl ?_
    refine b_aln (pc' := 76) (a := .inr (.inr (.inl 0))) tb_X10_apply r_X10_apply_75 rfl rfl rfl ?_
    obtain ⟨v74, cv74, h⟩ := rK_in h
    refine b_gi (pc' := 79) tb_X10_apply r_X10_apply_76 tF_0_10_8 cv74 rfl ?_
    rcases bK_in h with ⟨c1, h⟩ | ⟨c1, h⟩
    · refine b_icT (t := 99) tb_X10_apply r_X10_apply_79 rfl ((nGe_c _ _).symm.trans c1) ?_
      refine b_aln (pc' := 100) (a := .inr (.inr (.inl 0))) tb_X10_apply r_X10_apply_99 rfl rfl rfl ?_
      refine b_gr (pc' := 103) tb_X10_apply r_X10_apply_100 tF_0_10_1 rfl ?_
      refine b_iln (pc' := 104) (a := .inl a1) tb_X10_apply r_X10_apply_103 rfl rfl rfl ?_
      refine b_ic (pc' := 105) (0) tb_X10_apply r_X10_apply_104 rfl rfl ?_
      obtain ⟨v76, M75, ov76, h⟩ := cI_in h
      refine b_vI (pc' := 108) tb_X10_apply r_X10_apply_105 tb_X8_putOn mo_X8_putOn (by decide) rfl rfl ov76 (fun r hr => snd_X8_putOn hr) (by decide) rfl rfl rfl ?_
      refine b_stn (pc' := 109) [(3, .inl v76), (0, .inr (.inr (.inl 0))), (1, .inl a1), (2, .inl v46)] tb_X10_apply r_X10_apply_108 rfl rfl rfl rfl ?_
      refine b_iln (pc' := 110) (a := .inl v76) tb_X10_apply r_X10_apply_109 rfl rfl rfl ?_
      obtain ⟨c1, h⟩ := bK_t h
      refine b_ifT (t := 123) tb_X10_apply r_X10_apply_110 rfl ((zGe_c _).symm.trans c1) ?_
      refine b_aln (pc' := 124) (a := .inr (.inr (.inl 0))) tb_X10_apply r_X10_apply_123 rfl rfl rfl ?_
      refine b_dup (pc' := 125) tb_X10_apply r_X10_apply_124 rfl rfl ?_
      obtain ⟨v81, cv81, h⟩ := rK_in h
      refine b_gi (pc' := 128) tb_X10_apply r_X10_apply_125 tF_0_10_8 cv81 rfl ?_
      refine b_iln (pc' := 129) (a := .inl v46) tb_X10_apply r_X10_apply_128 rfl rfl rfl ?_
      refine b_sub (pc' := 130) tb_X10_apply r_X10_apply_129 rfl ?_
      obtain ⟨M82, cM82, h⟩ := pK_in h
      refine b_pi (pc' := 133) tb_X10_apply r_X10_apply_130 rfl tF_0_10_8 cM82 rfl ?_
      refine b_aln (pc' := 134) (a := .inr (.inr (.inl 0))) tb_X10_apply r_X10_apply_133 rfl rfl rfl ?_
      refine b_iln (pc' := 135) (a := .inl v76) tb_X10_apply r_X10_apply_134 rfl rfl rfl ?_
      obtain ⟨v84, M83, ov84, h⟩ := cI_in h
      refine b_vI (pc' := 138) tb_X10_apply r_X10_apply_135 tb_X10_push mo_X10_push (by decide) rfl rfl ov84 (fun r hr => snd_X10_push hr) (by decide) rfl rfl rfl ?_
      exact b_ri tb_X10_apply r_X10_apply_138 rfl (sj h).symm
    · refine b_icF (t := 99) (pc' := 82) tb_X10_apply r_X10_apply_79 rfl ((nGe_c _ _).symm.trans c1) rfl ?_
      refine b_aln (pc' := 83) (a := .inr (.inr (.inl 0))) tb_X10_apply r_X10_apply_82 rfl rfl rfl ?_
      refine b_gr (pc' := 86) tb_X10_apply r_X10_apply_83 tF_0_10_1 rfl ?_
      refine b_iln (pc' := 87) (a := .inl x72) tb_X10_apply r_X10_apply_86 rfl rfl rfl ?_
      obtain ⟨v86, M85, ov86, h⟩ := cI_in h
      refine b_sI (pc' := 90) tb_X10_apply r_X10_apply_87 tb_X10_stackAt mo_X10_stackAt (by decide) rfl rfl ov86 (fun r hr => snd_X10_stackAt hr) (by decide) rfl rfl rfl ?_
      obtain ⟨M87, oM87, h⟩ := cV_in h
      refine b_vV (pc' := 93) tb_X10_apply r_X10_apply_90 tb_X8_await mo_X8_await (by decide) rfl rfl oM87 (fun r hr => snd_X8_await hr) (by decide) rfl rfl rfl ?_
      refine b_inc (pc' := 96) (v := x72) (n := 1) [(3, .inl (oAdd x72 1)), (0, .inr (.inr (.inl 0))), (1, .inl a1), (2, .inl v46)] tb_X10_apply r_X10_apply_93 rfl rfl rfl rfl rfl ?_
      obtain ⟨v88, ev88, h⟩ := fK_v h
      rw [ev88]
      refine b_goto (pc' := 74) tb_X10_apply r_X10_apply_96 rfl ?_
      refine b_sub9 [(0, .inr (.inr (.inl 0))), (1, .inl a1), (2, .inl v46), (3, .inl v88)] ⟨rfl, rfl, rfl, rfl, trivial⟩ ?_
      exact hj74 _ _ h
  refine b_sub9 [(0, .inr (.inr (.inl 0))), (1, .inl a1), (2, .inl v46), (3, .inl v71)] ⟨rfl, rfl, rfl, rfl, trivial⟩ ?_
  exact hj74 _ _ h
noncomputable def m_X10_isVariableNumber (a0 : Nat) (M0 : Nat) : RN :=
  bK (zLt a0) none (bK (nGe a0 10) none (rbK 1 M0))
set_option maxRecDepth 100000 in
theorem snd_X10_isVariableNumber {l : Launch} {g : GV} {D : va_G} {sl q : Nat} {a0 M0 : Nat} {r : Nat × Nat} (h : m_X10_isVariableNumber a0 M0 = some r) : SN l g D sl 1 0 q q 28 0 [(0, .inl a0)] [] M0 (PR r) := by
  unfold m_X10_isVariableNumber at h
  refine b_iln (pc' := 1) (a := .inl a0) tb_X10_isVariableNumber r_X10_isVariableNumber_0 rfl rfl rfl ?_
  obtain ⟨c1, h⟩ := bK_f h
  refine b_ifF (t := 14) (pc' := 4) tb_X10_isVariableNumber r_X10_isVariableNumber_1 rfl ((zLt_c _).symm.trans c1) rfl ?_
  refine b_iln (pc' := 5) (a := .inl a0) tb_X10_isVariableNumber r_X10_isVariableNumber_4 rfl rfl rfl ?_
  refine b_bi (pc' := 7) (10) tb_X10_isVariableNumber r_X10_isVariableNumber_5 rfl rfl rfl ?_
  obtain ⟨c1, h⟩ := bK_f h
  refine b_icF (t := 14) (pc' := 10) tb_X10_isVariableNumber r_X10_isVariableNumber_7 rfl ((nGe_c _ _).symm.trans c1) rfl ?_
  refine b_ic (pc' := 11) (1) tb_X10_isVariableNumber r_X10_isVariableNumber_10 rfl rfl ?_
  refine b_goto (pc' := 15) tb_X10_isVariableNumber r_X10_isVariableNumber_11 rfl ?_
  obtain ⟨c1, h⟩ := rbK_in h
  exact b_rb tb_X10_isVariableNumber r_X10_isVariableNumber_15 rfl c1 h
noncomputable def m_X10_term (a1 : Nat) (M0 : Nat) : RN :=
  cI (m_X10_isVariableNumber a1 M0) (fun v2 M1 => bK (zNe v2) (rK M1 0 (fun v8 => bK (nLt v8 10) (cI (m_X10_push a1 M1) (fun v12 M11 => some (Nat.add v12 2, M11))) none)) none)
set_option maxRecDepth 100000 in
theorem snd_X10_term {l : Launch} {g : GV} {D : va_G} {sl q : Nat} {a1 M0 : Nat} {r : Nat × Nat} (h : m_X10_term a1 M0 = some r) : SN l g D sl 4 0 q q 23 0 [(0, .inr (.inr (.inl 0))), (1, .inl a1)] [] M0 (PR r) := by
  unfold m_X10_term at h
  refine b_iln (pc' := 1) (a := .inl a1) tb_X10_term r_X10_term_0 rfl rfl rfl ?_
  obtain ⟨v2, M1, ov2, h⟩ := cI_in h
  refine b_sI (pc' := 4) tb_X10_term r_X10_term_1 tb_X10_isVariableNumber mo_X10_isVariableNumber (by decide) rfl rfl ov2 (fun r hr => snd_X10_isVariableNumber hr) (by decide) rfl rfl rfl ?_
  obtain ⟨c1, h⟩ := bK_t h
  refine b_ifT (t := 17) tb_X10_term r_X10_term_4 rfl ((zNe_c _).symm.trans c1) ?_
  refine b_aln (pc' := 18) (a := .inr (.inr (.inl 0))) tb_X10_term r_X10_term_17 rfl rfl rfl ?_
  obtain ⟨v8, cv8, h⟩ := rK_in h
  refine b_gi (pc' := 21) tb_X10_term r_X10_term_18 tF_0_10_8 cv8 rfl ?_
  refine b_bi (pc' := 23) (10) tb_X10_term r_X10_term_21 rfl rfl rfl ?_
  obtain ⟨c1, h⟩ := bK_t h
  refine b_icT (t := 36) tb_X10_term r_X10_term_23 rfl ((nLt_c _ _).symm.trans c1) ?_
  refine b_aln (pc' := 37) (a := .inr (.inr (.inl 0))) tb_X10_term r_X10_term_36 rfl rfl rfl ?_
  refine b_iln (pc' := 38) (a := .inl a1) tb_X10_term r_X10_term_37 rfl rfl rfl ?_
  obtain ⟨v12, M11, ov12, h⟩ := cI_in h
  refine b_vI (pc' := 41) tb_X10_term r_X10_term_38 tb_X10_push mo_X10_push (by decide) rfl rfl ov12 (fun r hr => snd_X10_push hr) (by decide) rfl rfl rfl ?_
  exact b_ri tb_X10_term r_X10_term_41 rfl (sj h).symm
noncomputable def m_X10_drop (M0 : Nat) : RN :=
  rK M0 0 (fun v1 => pK M0 0 0 (fun M2 => some (Nat.add v1 2, M2)))
set_option maxRecDepth 100000 in
theorem snd_X10_drop {l : Launch} {g : GV} {D : va_G} {sl q : Nat} {M0 : Nat} {r : Nat × Nat} (h : m_X10_drop M0 = some r) : SN l g D sl 1 0 q q 40 0 [(0, .inr (.inr (.inl 0)))] [] M0 (PR r) := by
  unfold m_X10_drop at h
  refine b_aln (pc' := 1) (a := .inr (.inr (.inl 0))) tb_X10_drop r_X10_drop_0 rfl rfl rfl ?_
  obtain ⟨v1, cv1, h⟩ := rK_in h
  refine b_gi (pc' := 4) tb_X10_drop r_X10_drop_1 tF_0_10_8 cv1 rfl ?_
  refine b_stn (pc' := 5) [(1, .inl v1), (0, .inr (.inr (.inl 0)))] tb_X10_drop r_X10_drop_4 rfl rfl rfl rfl ?_
  refine b_aln (pc' := 6) (a := .inr (.inr (.inl 0))) tb_X10_drop r_X10_drop_5 rfl rfl rfl ?_
  refine b_ic (pc' := 7) (0) tb_X10_drop r_X10_drop_6 rfl rfl ?_
  obtain ⟨M2, cM2, h⟩ := pK_in h
  refine b_pi (pc' := 10) tb_X10_drop r_X10_drop_7 rfl tF_0_10_8 cM2 rfl ?_
  refine b_iln (pc' := 11) (a := .inl v1) tb_X10_drop r_X10_drop_10 rfl rfl rfl ?_
  exact b_ri tb_X10_drop r_X10_drop_11 rfl (sj h).symm
noncomputable def m_X10_topAt (M0 : Nat) : RN :=
  rK M0 0 (fun v1 => fK (oSub v1 1) (fun v2 => cI (m_X10_stackAt v2 M0) (fun v4 M3 => some (Nat.add v4 2, M3))))
set_option maxRecDepth 100000 in
theorem snd_X10_topAt {l : Launch} {g : GV} {D : va_G} {sl q : Nat} {M0 : Nat} {r : Nat × Nat} (h : m_X10_topAt M0 = some r) : SN l g D sl 2 0 q q 84 0 [(0, .inr (.inr (.inl 0)))] [] M0 (PR r) := by
  unfold m_X10_topAt at h
  refine b_aln (pc' := 1) (a := .inr (.inr (.inl 0))) tb_X10_topAt r_X10_topAt_0 rfl rfl rfl ?_
  obtain ⟨v1, cv1, h⟩ := rK_in h
  refine b_gi (pc' := 4) tb_X10_topAt r_X10_topAt_1 tF_0_10_8 cv1 rfl ?_
  refine b_ic (pc' := 5) (1) tb_X10_topAt r_X10_topAt_4 rfl rfl ?_
  refine b_sub (pc' := 6) tb_X10_topAt r_X10_topAt_5 rfl ?_
  obtain ⟨v2, ev2, h⟩ := fK_v h
  rw [ev2]
  obtain ⟨v4, M3, ov4, h⟩ := cI_in h
  refine b_sI (pc' := 9) tb_X10_topAt r_X10_topAt_6 tb_X10_stackAt mo_X10_stackAt (by decide) rfl rfl ov4 (fun r hr => snd_X10_stackAt hr) (by decide) rfl rfl rfl ?_
  exact b_ri tb_X10_topAt r_X10_topAt_9 rfl (sj h).symm
noncomputable def m_X10_operatorIn (a0 : Nat) (M0 : Nat) : RN :=
  dvK Nat.div a0 8 (fun v1 => some (Nat.add (oSub v1 4) 2, M0))
set_option maxRecDepth 100000 in
theorem snd_X10_operatorIn {l : Launch} {g : GV} {D : va_G} {sl q : Nat} {a0 M0 : Nat} {r : Nat × Nat} (h : m_X10_operatorIn a0 M0 = some r) : SN l g D sl 1 0 q q 86 0 [(0, .inl a0)] [] M0 (PR r) := by
  unfold m_X10_operatorIn at h
  refine b_iln (pc' := 1) (a := .inl a0) tb_X10_operatorIn r_X10_operatorIn_0 rfl rfl rfl ?_
  refine b_bi (pc' := 3) (8) tb_X10_operatorIn r_X10_operatorIn_1 rfl rfl rfl ?_
  obtain ⟨v1, c1, c2, c3, ev1, h⟩ := dvK_in h
  refine b_div (pc' := 4) tb_X10_operatorIn r_X10_operatorIn_3 c1 c2 c3 ev1 rfl ?_
  refine b_ic (pc' := 5) (4) tb_X10_operatorIn r_X10_operatorIn_4 rfl rfl ?_
  refine b_sub (pc' := 6) tb_X10_operatorIn r_X10_operatorIn_5 rfl ?_
  exact b_ri tb_X10_operatorIn r_X10_operatorIn_6 rfl (sj h).symm
noncomputable def m_X7_resultOf (a1 a2 a3 a4 : Nat) (M0 : Nat) : RN :=
  lK M0 16 12 a1 (fun v1 => lK M0 52 12 a1 (fun v2 => bK (nGe 0 v2) none (fK (oMul (oAdd (oMul a1 3) 0) 4) (fun v3 => fK (oAdd v3 1) (fun v4 => lK M0 64 136 v4 (fun v5 => fK (oAdd v3 2) (fun v6 => lK M0 64 136 v6 (fun v7 => jn (fun (M8 : Nat) => jn (fun (M9 : Nat) => bK (nLt v1 3) (lK M9 28 12 a1 (fun v15 => bK (nNe v15 1) (bK (zNe 1) (lK M9 64 136 v3 (fun v19 => some (Nat.add v19 2, M9))) none) none)) none) (fun (j100 : ( Nat → RN)) => bK (nLt v1 2) (j100 M8) (fK (oAdd a3 1) (fun v20 => lK M8 4 9 v20 (fun v21 => hK v21 v7 (fun v22 => bK (nNe (oAnd v22 1) 1) none (j100 M8))))))) (fun (j77 : ( Nat → RN)) => bK (nLt v1 1) (j77 M0) (fK (oAdd a2 1) (fun v23 => lK M0 4 9 v23 (fun v24 => hK v24 v5 (fun v25 => bK (nNe (oAnd v25 1) 1) none (j77 M0))))))))))))))
set_option maxRecDepth 100000 in
theorem snd_X7_resultOf {l : Launch} {g : GV} {D : va_G} {sl q : Nat} {a1 a2 a3 a4 M0 : Nat} {r : Nat × Nat} (h : m_X7_resultOf a1 a2 a3 a4 M0 = some r) : SN l g D sl 1 0 q q 72 0 [(0, .inr (.inr (.inl 1))), (1, .inl a1), (2, .inl a2), (3, .inl a3), (4, .inl a4)] [] M0 (PR r) := by
  unfold m_X7_resultOf at h
  refine b_aln (pc' := 1) (a := .inr (.inr (.inl 1))) tb_X7_resultOf r_X7_resultOf_0 rfl rfl rfl ?_
  refine b_gr (pc' := 4) tb_X7_resultOf r_X7_resultOf_1 tF_1_7_4 rfl ?_
  refine b_iln (pc' := 5) (a := .inl a1) tb_X7_resultOf r_X7_resultOf_4 rfl rfl rfl ?_
  obtain ⟨v1, dv1, cv1, h⟩ := lK_in h
  refine b_ia (pc' := 6) tb_X7_resultOf r_X7_resultOf_5 tA_4 dv1 cv1 rfl ?_
  refine b_st (pc' := 8) [(5, .inl v1), (0, .inr (.inr (.inl 1))), (1, .inl a1), (2, .inl a2), (3, .inl a3), (4, .inl a4)] tb_X7_resultOf r_X7_resultOf_6 rfl rfl rfl rfl ?_
  refine b_ic (pc' := 9) (0) tb_X7_resultOf r_X7_resultOf_8 rfl rfl ?_
  refine b_st (pc' := 11) [(6, .inl 0), (5, .inl v1), (0, .inr (.inr (.inl 1))), (1, .inl a1), (2, .inl a2), (3, .inl a3), (4, .inl a4)] tb_X7_resultOf r_X7_resultOf_9 rfl rfl rfl rfl ?_
  refine b_il (pc' := 13) (a := .inl 0) tb_X7_resultOf r_X7_resultOf_11 rfl rfl rfl ?_
  refine b_aln (pc' := 14) (a := .inr (.inr (.inl 1))) tb_X7_resultOf r_X7_resultOf_13 rfl rfl rfl ?_
  refine b_gr (pc' := 17) tb_X7_resultOf r_X7_resultOf_14 tF_1_7_7 rfl ?_
  refine b_iln (pc' := 18) (a := .inl a1) tb_X7_resultOf r_X7_resultOf_17 rfl rfl rfl ?_
  obtain ⟨v2, dv2, cv2, h⟩ := lK_in h
  refine b_ia (pc' := 19) tb_X7_resultOf r_X7_resultOf_18 tA_7 dv2 cv2 rfl ?_
  obtain ⟨c1, h⟩ := bK_f h
  refine b_icF (t := 208) (pc' := 22) tb_X7_resultOf r_X7_resultOf_19 rfl ((nGe_c _ _).symm.trans c1) rfl ?_
  refine b_iln (pc' := 23) (a := .inl a1) tb_X7_resultOf r_X7_resultOf_22 rfl rfl rfl ?_
  refine b_ic (pc' := 24) (3) tb_X7_resultOf r_X7_resultOf_23 rfl rfl ?_
  refine b_mul (pc' := 25) tb_X7_resultOf r_X7_resultOf_24 rfl ?_
  refine b_il (pc' := 27) (a := .inl 0) tb_X7_resultOf r_X7_resultOf_25 rfl rfl rfl ?_
  refine b_add (pc' := 28) tb_X7_resultOf r_X7_resultOf_27 rfl ?_
  refine b_ic (pc' := 29) (4) tb_X7_resultOf r_X7_resultOf_28 rfl rfl ?_
  refine b_mul (pc' := 30) tb_X7_resultOf r_X7_resultOf_29 rfl ?_
  obtain ⟨v3, ev3, h⟩ := fK_v h
  rw [ev3]
  refine b_st (pc' := 32) [(7, .inl v3), (6, .inl 0), (5, .inl v1), (0, .inr (.inr (.inl 1))), (1, .inl a1), (2, .inl a2), (3, .inl a3), (4, .inl a4)] tb_X7_resultOf r_X7_resultOf_30 rfl rfl rfl rfl ?_
  refine b_aln (pc' := 33) (a := .inr (.inr (.inl 1))) tb_X7_resultOf r_X7_resultOf_32 rfl rfl rfl ?_
  refine b_gr (pc' := 36) tb_X7_resultOf r_X7_resultOf_33 tF_1_7_8 rfl ?_
  refine b_il (pc' := 38) (a := .inl v3) tb_X7_resultOf r_X7_resultOf_36 rfl rfl rfl ?_
  refine b_ic (pc' := 39) (1) tb_X7_resultOf r_X7_resultOf_38 rfl rfl ?_
  refine b_add (pc' := 40) tb_X7_resultOf r_X7_resultOf_39 rfl ?_
  obtain ⟨v4, ev4, h⟩ := fK_v h
  rw [ev4]
  obtain ⟨v5, dv5, cv5, h⟩ := lK_in h
  refine b_ia (pc' := 41) tb_X7_resultOf r_X7_resultOf_40 tA_8 dv5 cv5 rfl ?_
  refine b_st (pc' := 43) [(8, .inl v5), (7, .inl v3), (6, .inl 0), (5, .inl v1), (0, .inr (.inr (.inl 1))), (1, .inl a1), (2, .inl a2), (3, .inl a3), (4, .inl a4)] tb_X7_resultOf r_X7_resultOf_41 rfl rfl rfl rfl ?_
  refine b_aln (pc' := 44) (a := .inr (.inr (.inl 1))) tb_X7_resultOf r_X7_resultOf_43 rfl rfl rfl ?_
  refine b_gr (pc' := 47) tb_X7_resultOf r_X7_resultOf_44 tF_1_7_8 rfl ?_
  refine b_il (pc' := 49) (a := .inl v3) tb_X7_resultOf r_X7_resultOf_47 rfl rfl rfl ?_
  refine b_ic (pc' := 50) (2) tb_X7_resultOf r_X7_resultOf_49 rfl rfl ?_
  refine b_add (pc' := 51) tb_X7_resultOf r_X7_resultOf_50 rfl ?_
  obtain ⟨v6, ev6, h⟩ := fK_v h
  rw [ev6]
  obtain ⟨v7, dv7, cv7, h⟩ := lK_in h
  refine b_ia (pc' := 52) tb_X7_resultOf r_X7_resultOf_51 tA_8 dv7 cv7 rfl ?_
  refine b_st (pc' := 54) [(9, .inl v7), (8, .inl v5), (7, .inl v3), (6, .inl 0), (5, .inl v1), (0, .inr (.inr (.inl 1))), (1, .inl a1), (2, .inl a2), (3, .inl a3), (4, .inl a4)] tb_X7_resultOf r_X7_resultOf_52 rfl rfl rfl rfl ?_
  refine b_il (pc' := 56) (a := .inl v1) tb_X7_resultOf r_X7_resultOf_54 rfl rfl rfl ?_
  refine b_ic (pc' := 57) (1) tb_X7_resultOf r_X7_resultOf_56 rfl rfl ?_
  refine jn_in (R := fun (j77 : ( Nat → RN)) => ∀ (M8 : Nat), j77 M8 = some r → SN l g D sl 1 0 q q 72 77 [(0, .inr (.inr (.inl 1))), (1, .inl a1), (3, .inl a3), (5, .inl v1), (7, .inl v3), (9, .inl v7)] [] M8 (PR r)) h (fun M8 h => ?_) (fun j77 hj77 h => ?_)
  · skip
    refine b_il (pc' := 79) (a := .inl v1) tb_X7_resultOf r_X7_resultOf_77 rfl rfl rfl ?_
    refine b_ic (pc' := 80) (2) tb_X7_resultOf r_X7_resultOf_79 rfl rfl ?_
    refine jn_in (R := fun (j100 : ( Nat → RN)) => ∀ (M9 : Nat), j100 M9 = some r → SN l g D sl 1 0 q q 72 100 [(0, .inr (.inr (.inl 1))), (1, .inl a1), (5, .inl v1), (7, .inl v3)] [] M9 (PR r)) h (fun M9 h => ?_) (fun j100 hj100 h => ?_)
    · skip
      refine b_il (pc' := 102) (a := .inl v1) tb_X7_resultOf r_X7_resultOf_100 rfl rfl rfl ?_
      refine b_ic (pc' := 103) (3) tb_X7_resultOf r_X7_resultOf_102 rfl rfl ?_
      obtain ⟨c1, h⟩ := bK_t h
      refine b_icT (t := 131) tb_X7_resultOf r_X7_resultOf_103 rfl ((nLt_c _ _).symm.trans c1) ?_
      refine b_ic (pc' := 132) (1) tb_X7_resultOf r_X7_resultOf_131 rfl rfl ?_
      refine b_goto (pc' := 136) tb_X7_resultOf r_X7_resultOf_132 rfl ?_
      refine b_st (pc' := 138) [(10, .inl 1), (0, .inr (.inr (.inl 1))), (1, .inl a1), (5, .inl v1), (7, .inl v3)] tb_X7_resultOf r_X7_resultOf_136 rfl rfl rfl rfl ?_
      refine b_aln (pc' := 139) (a := .inr (.inr (.inl 1))) tb_X7_resultOf r_X7_resultOf_138 rfl rfl rfl ?_
      refine b_gr (pc' := 142) tb_X7_resultOf r_X7_resultOf_139 tF_1_7_5 rfl ?_
      refine b_iln (pc' := 143) (a := .inl a1) tb_X7_resultOf r_X7_resultOf_142 rfl rfl rfl ?_
      obtain ⟨v15, dv15, cv15, h⟩ := lK_in h
      refine b_ia (pc' := 144) tb_X7_resultOf r_X7_resultOf_143 tA_5 dv15 cv15 rfl ?_
      refine b_ic (pc' := 145) (1) tb_X7_resultOf r_X7_resultOf_144 rfl rfl ?_
      obtain ⟨c1, h⟩ := bK_t h
      refine b_icT (t := 181) tb_X7_resultOf r_X7_resultOf_145 rfl ((nNe_c _ _).symm.trans c1) ?_
      refine b_ic (pc' := 182) (0) tb_X7_resultOf r_X7_resultOf_181 rfl rfl ?_
      refine b_st (pc' := 184) [(11, .inl 0), (10, .inl 1), (0, .inr (.inr (.inl 1))), (1, .inl a1), (5, .inl v1), (7, .inl v3)] tb_X7_resultOf r_X7_resultOf_182 rfl rfl rfl rfl ?_
      refine b_il (pc' := 186) (a := .inl 1) tb_X7_resultOf r_X7_resultOf_184 rfl rfl rfl ?_
      obtain ⟨c1, h⟩ := bK_t h
      refine b_ifT (t := 194) tb_X7_resultOf r_X7_resultOf_186 rfl ((zNe_c _).symm.trans c1) ?_
      refine b_aln (pc' := 195) (a := .inr (.inr (.inl 1))) tb_X7_resultOf r_X7_resultOf_194 rfl rfl rfl ?_
      refine b_gr (pc' := 198) tb_X7_resultOf r_X7_resultOf_195 tF_1_7_8 rfl ?_
      refine b_il (pc' := 200) (a := .inl v3) tb_X7_resultOf r_X7_resultOf_198 rfl rfl rfl ?_
      obtain ⟨v19, dv19, cv19, h⟩ := lK_in h
      refine b_ia (pc' := 201) tb_X7_resultOf r_X7_resultOf_200 tA_8 dv19 cv19 rfl ?_
      exact b_ri tb_X7_resultOf r_X7_resultOf_201 rfl (sj h).symm
    rcases bK_in h with ⟨c1, h⟩ | ⟨c1, h⟩
    · refine b_icT (t := 100) tb_X7_resultOf r_X7_resultOf_80 rfl ((nLt_c _ _).symm.trans c1) ?_
      refine b_sub9 [(0, .inr (.inr (.inl 1))), (1, .inl a1), (5, .inl v1), (7, .inl v3)] ⟨rfl, rfl, rfl, rfl, trivial⟩ ?_
      exact hj100 _ h
    · refine b_icF (t := 100) (pc' := 83) tb_X7_resultOf r_X7_resultOf_80 rfl ((nLt_c _ _).symm.trans c1) rfl ?_
      refine b_aln (pc' := 84) (a := .inr (.inr (.inl 1))) tb_X7_resultOf r_X7_resultOf_83 rfl rfl rfl ?_
      refine b_gr (pc' := 87) tb_X7_resultOf r_X7_resultOf_84 tF_1_7_2 rfl ?_
      refine b_iln (pc' := 88) (a := .inl a3) tb_X7_resultOf r_X7_resultOf_87 rfl rfl rfl ?_
      refine b_ic (pc' := 89) (1) tb_X7_resultOf r_X7_resultOf_88 rfl rfl ?_
      refine b_add (pc' := 90) tb_X7_resultOf r_X7_resultOf_89 rfl ?_
      obtain ⟨v20, ev20, h⟩ := fK_v h
      rw [ev20]
      obtain ⟨v21, dv21, cv21, h⟩ := lK_in h
      refine b_ia (pc' := 91) tb_X7_resultOf r_X7_resultOf_90 tA_2 dv21 cv21 rfl ?_
      refine b_il (pc' := 93) (a := .inl v7) tb_X7_resultOf r_X7_resultOf_91 rfl rfl rfl ?_
      obtain ⟨v22, c1, ev22, h⟩ := hK_in h
      refine b_shr (pc' := 94) tb_X7_resultOf r_X7_resultOf_93 c1 ev22 rfl ?_
      refine b_ic (pc' := 95) (1) tb_X7_resultOf r_X7_resultOf_94 rfl rfl ?_
      refine b_and (pc' := 96) tb_X7_resultOf r_X7_resultOf_95 rfl ?_
      refine b_ic (pc' := 97) (1) tb_X7_resultOf r_X7_resultOf_96 rfl rfl ?_
      obtain ⟨c1, h⟩ := bK_f h
      refine b_icF (t := 135) (pc' := 100) tb_X7_resultOf r_X7_resultOf_97 rfl ((nNe_c _ _).symm.trans c1) rfl ?_
      refine b_sub9 [(0, .inr (.inr (.inl 1))), (1, .inl a1), (5, .inl v1), (7, .inl v3)] ⟨rfl, rfl, rfl, rfl, trivial⟩ ?_
      exact hj100 _ h
  rcases bK_in h with ⟨c1, h⟩ | ⟨c1, h⟩
  · refine b_icT (t := 77) tb_X7_resultOf r_X7_resultOf_57 rfl ((nLt_c _ _).symm.trans c1) ?_
    refine b_sub9 [(0, .inr (.inr (.inl 1))), (1, .inl a1), (3, .inl a3), (5, .inl v1), (7, .inl v3), (9, .inl v7)] ⟨rfl, rfl, rfl, rfl, rfl, rfl, trivial⟩ ?_
    exact hj77 _ h
  · refine b_icF (t := 77) (pc' := 60) tb_X7_resultOf r_X7_resultOf_57 rfl ((nLt_c _ _).symm.trans c1) rfl ?_
    refine b_aln (pc' := 61) (a := .inr (.inr (.inl 1))) tb_X7_resultOf r_X7_resultOf_60 rfl rfl rfl ?_
    refine b_gr (pc' := 64) tb_X7_resultOf r_X7_resultOf_61 tF_1_7_2 rfl ?_
    refine b_iln (pc' := 65) (a := .inl a2) tb_X7_resultOf r_X7_resultOf_64 rfl rfl rfl ?_
    refine b_ic (pc' := 66) (1) tb_X7_resultOf r_X7_resultOf_65 rfl rfl ?_
    refine b_add (pc' := 67) tb_X7_resultOf r_X7_resultOf_66 rfl ?_
    obtain ⟨v23, ev23, h⟩ := fK_v h
    rw [ev23]
    obtain ⟨v24, dv24, cv24, h⟩ := lK_in h
    refine b_ia (pc' := 68) tb_X7_resultOf r_X7_resultOf_67 tA_2 dv24 cv24 rfl ?_
    refine b_il (pc' := 70) (a := .inl v5) tb_X7_resultOf r_X7_resultOf_68 rfl rfl rfl ?_
    obtain ⟨v25, c1, ev25, h⟩ := hK_in h
    refine b_shr (pc' := 71) tb_X7_resultOf r_X7_resultOf_70 c1 ev25 rfl ?_
    refine b_ic (pc' := 72) (1) tb_X7_resultOf r_X7_resultOf_71 rfl rfl ?_
    refine b_and (pc' := 73) tb_X7_resultOf r_X7_resultOf_72 rfl ?_
    refine b_ic (pc' := 74) (1) tb_X7_resultOf r_X7_resultOf_73 rfl rfl ?_
    obtain ⟨c1, h⟩ := bK_f h
    refine b_icF (t := 135) (pc' := 77) tb_X7_resultOf r_X7_resultOf_74 rfl ((nNe_c _ _).symm.trans c1) rfl ?_
    refine b_sub9 [(0, .inr (.inr (.inl 1))), (1, .inl a1), (3, .inl a3), (5, .inl v1), (7, .inl v3), (9, .inl v7)] ⟨rfl, rfl, rfl, rfl, rfl, rfl, trivial⟩ ?_
    exact hj77 _ h
noncomputable def m_X8_sortAt (d : Nat) : Nat → Nat → RN := @Nat.rec (fun _ => Nat → Nat → RN) (fun _ _ => none) (fun _ ih a1 M0 =>
  lK2 M0 281 780 7500 7656 a1 (fun v1 => bK (nGe v1 32) (cI (m_X10_operatorIn v1 M0) (fun v41 M40 => dvK Nat.mod v1 8 (fun v42 => fK (oAdd a1 1) (fun v43 => jn (fun (s44 : Nat) (M45 : Nat) => jn (fun (s46 : Nat) (M47 : Nat) => jn (fun (s48 : Nat) (M49 : Nat) => jn (fun (s50 : Nat) (M51 : Nat) => lK M51 28 12 v41 (fun v52 => bK (nGe v52 2) (cI (m_X7_resultOf v41 s44 s48 4294967295 M51) (fun v54 M53 => lp (fun _ _ _ _ => none) (fun (j174 : (Nat → Nat → Nat →  Nat → RN)) => fun (x55 : Nat) (x56 : Nat) (x57 : Nat) (M58 : Nat) => bK (nGe x57 v42) (some (Nat.add x56 2, M58)) (cI (ih x55 M58) (fun v60 M59 => cI (m_X7_resultOf v41 x56 v60 4294967295 M59) (fun v62 M61 => cI (m_X8_end x55 M61) (fun v64 M63 => fK (oAdd x57 1) (fun v65 => j174 v64 v62 v65 M63)))))) (fun (j174 : (Nat → Nat → Nat →  Nat → RN)) => j174 s50 v54 2 M53))) (bK (nLe v42 2) (cI (m_X7_resultOf v41 s44 s48 4294967295 M51) (fun v69 M68 => some (Nat.add v69 2, M68))) none))) (fun (j112 : (Nat →  Nat → RN)) => bK (nLe v42 1) (j112 s46 M49) (cI (m_X8_end s46 M49) (fun v71 M70 => j112 v71 M70)))) (fun (j93 : (Nat →  Nat → RN)) => bK (nLe v42 1) (j93 4294967295 M47) (cI (ih s46 M47) (fun v73 M72 => j93 v73 M72)))) (fun (j75 : (Nat →  Nat → RN)) => bK (zLe v42) (j75 v43 M45) (cI (m_X8_end v43 M45) (fun v75 M74 => j75 v75 M74)))) (fun (j57 : (Nat →  Nat → RN)) => bK (zLe v42) (j57 4294967295 M40) (cI (ih v43 M40) (fun v77 M76 => j57 v77 M76))))))) none)) d
set_option maxRecDepth 100000 in
theorem snd_X8_sortAt {l : Launch} {g : GV} {D : va_G} {sl q : Nat} (d : Nat) {a1 M0 : Nat} {r : Nat × Nat} (h : m_X8_sortAt d a1 M0 = some r) : SN l g D sl (d + 5) 0 q q 75 0 [(0, .inr (.inr (.inl 11))), (1, .inl a1)] [] M0 (PR r) := by
  induction d generalizing a1 M0 r with
  | zero => cases h
  | succ d ih0 =>
    have hih : ∀ (a1 M0 : Nat) (r : Nat × Nat), m_X8_sortAt d a1 M0 = some r → SN l g D sl (d + 5) 0 q q 75 0 [(0, .inr (.inr (.inl 11))), (1, .inl a1)] [] M0 (PR r) := fun a1 M0 r h => ih0 h
    clear ih0
    refine SN.hup (h := (d + 5 + 1)) (by omega) ?_
    generalize eih : m_X8_sortAt d = ih at hih
    have h : (fun (ih : Nat → Nat → RN) => (fun (a1 M0 : Nat) =>
  lK2 M0 281 780 7500 7656 a1 (fun v1 => bK (nGe v1 32) (cI (m_X10_operatorIn v1 M0) (fun v41 M40 => dvK Nat.mod v1 8 (fun v42 => fK (oAdd a1 1) (fun v43 => jn (fun (s44 : Nat) (M45 : Nat) => jn (fun (s46 : Nat) (M47 : Nat) => jn (fun (s48 : Nat) (M49 : Nat) => jn (fun (s50 : Nat) (M51 : Nat) => lK M51 28 12 v41 (fun v52 => bK (nGe v52 2) (cI (m_X7_resultOf v41 s44 s48 4294967295 M51) (fun v54 M53 => lp (fun _ _ _ _ => none) (fun (j174 : (Nat → Nat → Nat →  Nat → RN)) => fun (x55 : Nat) (x56 : Nat) (x57 : Nat) (M58 : Nat) => bK (nGe x57 v42) (some (Nat.add x56 2, M58)) (cI (ih x55 M58) (fun v60 M59 => cI (m_X7_resultOf v41 x56 v60 4294967295 M59) (fun v62 M61 => cI (m_X8_end x55 M61) (fun v64 M63 => fK (oAdd x57 1) (fun v65 => j174 v64 v62 v65 M63)))))) (fun (j174 : (Nat → Nat → Nat →  Nat → RN)) => j174 s50 v54 2 M53))) (bK (nLe v42 2) (cI (m_X7_resultOf v41 s44 s48 4294967295 M51) (fun v69 M68 => some (Nat.add v69 2, M68))) none))) (fun (j112 : (Nat →  Nat → RN)) => bK (nLe v42 1) (j112 s46 M49) (cI (m_X8_end s46 M49) (fun v71 M70 => j112 v71 M70)))) (fun (j93 : (Nat →  Nat → RN)) => bK (nLe v42 1) (j93 4294967295 M47) (cI (ih s46 M47) (fun v73 M72 => j93 v73 M72)))) (fun (j75 : (Nat →  Nat → RN)) => bK (zLe v42) (j75 v43 M45) (cI (m_X8_end v43 M45) (fun v75 M74 => j75 v75 M74)))) (fun (j57 : (Nat →  Nat → RN)) => bK (zLe v42) (j57 4294967295 M40) (cI (ih v43 M40) (fun v77 M76 => j57 v77 M76))))))) none))) ih a1 M0 = some r := by rw [← eih]; exact h
    clear eih
    refine b_aln (pc' := 1) (a := .inr (.inr (.inl 11))) tb_X8_sortAt r_X8_sortAt_0 rfl rfl rfl ?_
    refine b_gr (pc' := 4) tb_X8_sortAt r_X8_sortAt_1 tF_11_8_1 rfl ?_
    refine b_iln (pc' := 5) (a := .inl a1) tb_X8_sortAt r_X8_sortAt_4 rfl rfl rfl ?_
    obtain ⟨v1, _, dv1, cv1, h⟩ := lK2_in h
    refine b_ia2 (pc' := 6) tb_X8_sortAt r_X8_sortAt_5 tA_12 dv1 cv1 rfl ?_
    refine b_stn (pc' := 7) [(2, .inl v1), (0, .inr (.inr (.inl 11))), (1, .inl a1)] tb_X8_sortAt r_X8_sortAt_6 rfl rfl rfl rfl ?_
    refine b_iln (pc' := 8) (a := .inl v1) tb_X8_sortAt r_X8_sortAt_7 rfl rfl rfl ?_
    refine b_bi (pc' := 10) (32) tb_X8_sortAt r_X8_sortAt_8 rfl rfl rfl ?_
    obtain ⟨c1, h⟩ := bK_t h
    refine b_icT (t := 26) tb_X8_sortAt r_X8_sortAt_10 rfl ((nGe_c _ _).symm.trans c1) ?_
    refine b_iln (pc' := 27) (a := .inl v1) tb_X8_sortAt r_X8_sortAt_26 rfl rfl rfl ?_
    obtain ⟨v41, M40, ov41, h⟩ := cI_in h
    refine b_sI (pc' := 30) tb_X8_sortAt r_X8_sortAt_27 tb_X10_operatorIn mo_X10_operatorIn (by decide) rfl rfl ov41 (fun r hr => snd_X10_operatorIn hr) (by omega) rfl rfl rfl ?_
    refine b_stn (pc' := 31) [(3, .inl v41), (2, .inl v1), (0, .inr (.inr (.inl 11))), (1, .inl a1)] tb_X8_sortAt r_X8_sortAt_30 rfl rfl rfl rfl ?_
    refine b_iln (pc' := 32) (a := .inl v1) tb_X8_sortAt r_X8_sortAt_31 rfl rfl rfl ?_
    refine b_bi (pc' := 34) (8) tb_X8_sortAt r_X8_sortAt_32 rfl rfl rfl ?_
    obtain ⟨v42, c1, c2, c3, ev42, h⟩ := dvK_in h
    refine b_rem (pc' := 35) tb_X8_sortAt r_X8_sortAt_34 c1 c2 c3 ev42 rfl ?_
    refine b_st (pc' := 37) [(4, .inl v42), (3, .inl v41), (2, .inl v1), (0, .inr (.inr (.inl 11))), (1, .inl a1)] tb_X8_sortAt r_X8_sortAt_35 rfl rfl rfl rfl ?_
    refine b_iln (pc' := 38) (a := .inl a1) tb_X8_sortAt r_X8_sortAt_37 rfl rfl rfl ?_
    refine b_ic (pc' := 39) (1) tb_X8_sortAt r_X8_sortAt_38 rfl rfl ?_
    refine b_add (pc' := 40) tb_X8_sortAt r_X8_sortAt_39 rfl ?_
    obtain ⟨v43, ev43, h⟩ := fK_v h
    rw [ev43]
    refine b_st (pc' := 42) [(5, .inl v43), (4, .inl v42), (3, .inl v41), (2, .inl v1), (0, .inr (.inr (.inl 11))), (1, .inl a1)] tb_X8_sortAt r_X8_sortAt_40 rfl rfl rfl rfl ?_
    refine b_il (pc' := 44) (a := .inl v42) tb_X8_sortAt r_X8_sortAt_42 rfl rfl rfl ?_
    refine jn_in (R := fun (j57 : (Nat → Nat → RN)) => ∀ (s44 M45 : Nat), j57 s44 M45 = some r → SN l g D sl (d + 5 + 1) 0 q q 75 57 [(0, .inr (.inr (.inl 11))), (3, .inl v41), (4, .inl v42), (5, .inl v43)] [.inl s44] M45 (PR r)) h (fun s44 M45 h => ?_) (fun j57 hj57 h => ?_)
    · skip
      refine b_st (pc' := 59) [(6, .inl s44), (0, .inr (.inr (.inl 11))), (3, .inl v41), (4, .inl v42), (5, .inl v43)] tb_X8_sortAt r_X8_sortAt_57 rfl rfl rfl rfl ?_
      refine b_il (pc' := 61) (a := .inl v42) tb_X8_sortAt r_X8_sortAt_59 rfl rfl rfl ?_
      refine jn_in (R := fun (j75 : (Nat → Nat → RN)) => ∀ (s46 M47 : Nat), j75 s46 M47 = some r → SN l g D sl (d + 5 + 1) 0 q q 75 75 [(0, .inr (.inr (.inl 11))), (3, .inl v41), (4, .inl v42), (6, .inl s44)] [.inl s46] M47 (PR r)) h (fun s46 M47 h => ?_) (fun j75 hj75 h => ?_)
      · skip
        refine b_st (pc' := 77) [(5, .inl s46), (0, .inr (.inr (.inl 11))), (3, .inl v41), (4, .inl v42), (6, .inl s44)] tb_X8_sortAt r_X8_sortAt_75 rfl rfl rfl rfl ?_
        refine b_il (pc' := 79) (a := .inl v42) tb_X8_sortAt r_X8_sortAt_77 rfl rfl rfl ?_
        refine b_ic (pc' := 80) (1) tb_X8_sortAt r_X8_sortAt_79 rfl rfl ?_
        refine jn_in (R := fun (j93 : (Nat → Nat → RN)) => ∀ (s48 M49 : Nat), j93 s48 M49 = some r → SN l g D sl (d + 5 + 1) 0 q q 75 93 [(0, .inr (.inr (.inl 11))), (3, .inl v41), (4, .inl v42), (5, .inl s46), (6, .inl s44)] [.inl s48] M49 (PR r)) h (fun s48 M49 h => ?_) (fun j93 hj93 h => ?_)
        · skip
          refine b_st (pc' := 95) [(7, .inl s48), (0, .inr (.inr (.inl 11))), (3, .inl v41), (4, .inl v42), (5, .inl s46), (6, .inl s44)] tb_X8_sortAt r_X8_sortAt_93 rfl rfl rfl rfl ?_
          refine b_il (pc' := 97) (a := .inl v42) tb_X8_sortAt r_X8_sortAt_95 rfl rfl rfl ?_
          refine b_ic (pc' := 98) (1) tb_X8_sortAt r_X8_sortAt_97 rfl rfl ?_
          refine jn_in (R := fun (j112 : (Nat → Nat → RN)) => ∀ (s50 M51 : Nat), j112 s50 M51 = some r → SN l g D sl (d + 5 + 1) 0 q q 75 112 [(0, .inr (.inr (.inl 11))), (3, .inl v41), (4, .inl v42), (6, .inl s44), (7, .inl s48)] [.inl s50] M51 (PR r)) h (fun s50 M51 h => ?_) (fun j112 hj112 h => ?_)
          · skip
            refine b_st (pc' := 114) [(5, .inl s50), (0, .inr (.inr (.inl 11))), (3, .inl v41), (4, .inl v42), (6, .inl s44), (7, .inl s48)] tb_X8_sortAt r_X8_sortAt_112 rfl rfl rfl rfl ?_
            refine b_aln (pc' := 115) (a := .inr (.inr (.inl 11))) tb_X8_sortAt r_X8_sortAt_114 rfl rfl rfl ?_
            refine b_gr (pc' := 118) tb_X8_sortAt r_X8_sortAt_115 tF_11_8_0 rfl ?_
            refine b_gr (pc' := 121) tb_X8_sortAt r_X8_sortAt_118 tF_1_7_5 rfl ?_
            refine b_iln (pc' := 122) (a := .inl v41) tb_X8_sortAt r_X8_sortAt_121 rfl rfl rfl ?_
            obtain ⟨v52, dv52, cv52, h⟩ := lK_in h
            refine b_ia (pc' := 123) tb_X8_sortAt r_X8_sortAt_122 tA_5 dv52 cv52 rfl ?_
            refine b_ic (pc' := 124) (2) tb_X8_sortAt r_X8_sortAt_123 rfl rfl ?_
            rcases bK_in h with ⟨c1, h⟩ | ⟨c1, h⟩
            · refine b_icT (t := 156) tb_X8_sortAt r_X8_sortAt_124 rfl ((nGe_c _ _).symm.trans c1) ?_
              refine b_aln (pc' := 157) (a := .inr (.inr (.inl 11))) tb_X8_sortAt r_X8_sortAt_156 rfl rfl rfl ?_
              refine b_gr (pc' := 160) tb_X8_sortAt r_X8_sortAt_157 tF_11_8_0 rfl ?_
              refine b_iln (pc' := 161) (a := .inl v41) tb_X8_sortAt r_X8_sortAt_160 rfl rfl rfl ?_
              refine b_il (pc' := 163) (a := .inl s44) tb_X8_sortAt r_X8_sortAt_161 rfl rfl rfl ?_
              refine b_il (pc' := 165) (a := .inl s48) tb_X8_sortAt r_X8_sortAt_163 rfl rfl rfl ?_
              refine b_ic (pc' := 166) (4294967295) tb_X8_sortAt r_X8_sortAt_165 rfl rfl ?_
              obtain ⟨v54, M53, ov54, h⟩ := cI_in h
              refine b_vI (pc' := 169) tb_X8_sortAt r_X8_sortAt_166 tb_X7_resultOf mo_X7_resultOf (by decide) rfl rfl ov54 (fun r hr => snd_X7_resultOf hr) (by omega) rfl rfl rfl ?_
              refine b_st (pc' := 171) [(8, .inl v54), (5, .inl s50), (0, .inr (.inr (.inl 11))), (3, .inl v41), (4, .inl v42), (6, .inl s44), (7, .inl s48)] tb_X8_sortAt r_X8_sortAt_169 rfl rfl rfl rfl ?_
              refine b_ic (pc' := 172) (2) tb_X8_sortAt r_X8_sortAt_171 rfl rfl ?_
              refine b_st (pc' := 174) [(9, .inl 2), (8, .inl v54), (5, .inl s50), (0, .inr (.inr (.inl 11))), (3, .inl v41), (4, .inl v42), (6, .inl s44), (7, .inl s48)] tb_X8_sortAt r_X8_sortAt_172 rfl rfl rfl rfl ?_
              refine lp_in (R := fun (j174 : (Nat → Nat → Nat → Nat → RN)) => ∀ (x55 x56 x57 M58 : Nat), j174 x55 x56 x57 M58 = some r → SN l g D sl (d + 5 + 1) 0 q q 75 174 [(0, .inr (.inr (.inl 11))), (3, .inl v41), (4, .inl v42), (5, .inl x55), (8, .inl x56), (9, .inl x57)] [] M58 (PR r)) h (fun _ _ _ _ h => by cases h) (fun j174 hj174 => ?_) (fun j174 hj174 h => ?_)
              · intro x55 x56 x57 M58 h
                refine b_il (pc' := 176) (a := .inl x57) tb_X8_sortAt r_X8_sortAt_174 rfl rfl rfl ?_
                refine b_il (pc' := 178) (a := .inl v42) tb_X8_sortAt r_X8_sortAt_176 rfl rfl rfl ?_
                rcases bK_in h with ⟨c1, h⟩ | ⟨c1, h⟩
                · refine b_icT (t := 214) tb_X8_sortAt r_X8_sortAt_178 rfl ((nGe_c _ _).symm.trans c1) ?_
                  refine b_il (pc' := 216) (a := .inl x56) tb_X8_sortAt r_X8_sortAt_214 rfl rfl rfl ?_
                  exact b_ri tb_X8_sortAt r_X8_sortAt_216 rfl (sj h).symm
                · refine b_icF (t := 214) (pc' := 181) tb_X8_sortAt r_X8_sortAt_178 rfl ((nGe_c _ _).symm.trans c1) rfl ?_
                  refine b_aln (pc' := 182) (a := .inr (.inr (.inl 11))) tb_X8_sortAt r_X8_sortAt_181 rfl rfl rfl ?_
                  refine b_gr (pc' := 185) tb_X8_sortAt r_X8_sortAt_182 tF_11_8_0 rfl ?_
                  refine b_iln (pc' := 186) (a := .inl v41) tb_X8_sortAt r_X8_sortAt_185 rfl rfl rfl ?_
                  refine b_il (pc' := 188) (a := .inl x56) tb_X8_sortAt r_X8_sortAt_186 rfl rfl rfl ?_
                  refine b_aln (pc' := 189) (a := .inr (.inr (.inl 11))) tb_X8_sortAt r_X8_sortAt_188 rfl rfl rfl ?_
                  refine b_il (pc' := 191) (a := .inl x55) tb_X8_sortAt r_X8_sortAt_189 rfl rfl rfl ?_
                  obtain ⟨v60, M59, ov60, h⟩ := cI_in h
                  refine b_vI (pc' := 194) tb_X8_sortAt r_X8_sortAt_191 tb_X8_sortAt mo_X8_sortAt (by decide) rfl rfl ov60 (fun r hr => hih _ _ _ hr) (by omega) rfl rfl rfl ?_
                  refine b_ic (pc' := 195) (4294967295) tb_X8_sortAt r_X8_sortAt_194 rfl rfl ?_
                  obtain ⟨v62, M61, ov62, h⟩ := cI_in h
                  refine b_vI (pc' := 198) tb_X8_sortAt r_X8_sortAt_195 tb_X7_resultOf mo_X7_resultOf (by decide) rfl rfl ov62 (fun r hr => snd_X7_resultOf hr) (by omega) rfl rfl rfl ?_
                  refine b_st (pc' := 200) [(8, .inl v62), (0, .inr (.inr (.inl 11))), (3, .inl v41), (4, .inl v42), (5, .inl x55), (9, .inl x57)] tb_X8_sortAt r_X8_sortAt_198 rfl rfl rfl rfl ?_
                  refine b_aln (pc' := 201) (a := .inr (.inr (.inl 11))) tb_X8_sortAt r_X8_sortAt_200 rfl rfl rfl ?_
                  refine b_il (pc' := 203) (a := .inl x55) tb_X8_sortAt r_X8_sortAt_201 rfl rfl rfl ?_
                  obtain ⟨v64, M63, ov64, h⟩ := cI_in h
                  refine b_vI (pc' := 206) tb_X8_sortAt r_X8_sortAt_203 tb_X8_end mo_X8_end (by decide) rfl rfl ov64 (fun r hr => snd_X8_end hr) (by omega) rfl rfl rfl ?_
                  refine b_st (pc' := 208) [(5, .inl v64), (8, .inl v62), (0, .inr (.inr (.inl 11))), (3, .inl v41), (4, .inl v42), (9, .inl x57)] tb_X8_sortAt r_X8_sortAt_206 rfl rfl rfl rfl ?_
                  refine b_inc (pc' := 211) (v := x57) (n := 1) [(9, .inl (oAdd x57 1)), (5, .inl v64), (8, .inl v62), (0, .inr (.inr (.inl 11))), (3, .inl v41), (4, .inl v42)] tb_X8_sortAt r_X8_sortAt_208 rfl rfl rfl rfl rfl ?_
                  obtain ⟨v65, ev65, h⟩ := fK_v h
                  rw [ev65]
                  refine b_goto (pc' := 174) tb_X8_sortAt r_X8_sortAt_211 rfl ?_
                  refine b_sub9 [(0, .inr (.inr (.inl 11))), (3, .inl v41), (4, .inl v42), (5, .inl v64), (8, .inl v62), (9, .inl v65)] ⟨rfl, rfl, rfl, rfl, rfl, rfl, trivial⟩ ?_
                  exact hj174 _ _ _ _ h
              refine b_sub9 [(0, .inr (.inr (.inl 11))), (3, .inl v41), (4, .inl v42), (5, .inl s50), (8, .inl v54), (9, .inl 2)] ⟨rfl, rfl, rfl, rfl, rfl, rfl, trivial⟩ ?_
              exact hj174 _ _ _ _ h
            · refine b_icF (t := 156) (pc' := 127) tb_X8_sortAt r_X8_sortAt_124 rfl ((nGe_c _ _).symm.trans c1) rfl ?_
              refine b_aln (pc' := 128) (a := .inr (.inr (.inl 11))) tb_X8_sortAt r_X8_sortAt_127 rfl rfl rfl ?_
              refine b_gr (pc' := 131) tb_X8_sortAt r_X8_sortAt_128 tF_11_8_0 rfl ?_
              refine b_iln (pc' := 132) (a := .inl v41) tb_X8_sortAt r_X8_sortAt_131 rfl rfl rfl ?_
              refine b_il (pc' := 134) (a := .inl s44) tb_X8_sortAt r_X8_sortAt_132 rfl rfl rfl ?_
              refine b_il (pc' := 136) (a := .inl s48) tb_X8_sortAt r_X8_sortAt_134 rfl rfl rfl ?_
              refine b_il (pc' := 138) (a := .inl v42) tb_X8_sortAt r_X8_sortAt_136 rfl rfl rfl ?_
              refine b_ic (pc' := 139) (2) tb_X8_sortAt r_X8_sortAt_138 rfl rfl ?_
              obtain ⟨c1, h⟩ := bK_t h
              refine b_icT (t := 151) tb_X8_sortAt r_X8_sortAt_139 rfl ((nLe_c _ _).symm.trans c1) ?_
              refine b_ic (pc' := 152) (4294967295) tb_X8_sortAt r_X8_sortAt_151 rfl rfl ?_
              obtain ⟨v69, M68, ov69, h⟩ := cI_in h
              refine b_vI (pc' := 155) tb_X8_sortAt r_X8_sortAt_152 tb_X7_resultOf mo_X7_resultOf (by decide) rfl rfl ov69 (fun r hr => snd_X7_resultOf hr) (by omega) rfl rfl rfl ?_
              exact b_ri tb_X8_sortAt r_X8_sortAt_155 rfl (sj h).symm
          rcases bK_in h with ⟨c1, h⟩ | ⟨c1, h⟩
          · refine b_icT (t := 110) tb_X8_sortAt r_X8_sortAt_98 rfl ((nLe_c _ _).symm.trans c1) ?_
            refine b_il (pc' := 112) (a := .inl s46) tb_X8_sortAt r_X8_sortAt_110 rfl rfl rfl ?_
            refine b_sub9 [(0, .inr (.inr (.inl 11))), (3, .inl v41), (4, .inl v42), (6, .inl s44), (7, .inl s48)] ⟨rfl, rfl, rfl, rfl, rfl, trivial⟩ ?_
            exact hj112 _ _ h
          · refine b_icF (t := 110) (pc' := 101) tb_X8_sortAt r_X8_sortAt_98 rfl ((nLe_c _ _).symm.trans c1) rfl ?_
            refine b_aln (pc' := 102) (a := .inr (.inr (.inl 11))) tb_X8_sortAt r_X8_sortAt_101 rfl rfl rfl ?_
            refine b_il (pc' := 104) (a := .inl s46) tb_X8_sortAt r_X8_sortAt_102 rfl rfl rfl ?_
            obtain ⟨v71, M70, ov71, h⟩ := cI_in h
            refine b_vI (pc' := 107) tb_X8_sortAt r_X8_sortAt_104 tb_X8_end mo_X8_end (by decide) rfl rfl ov71 (fun r hr => snd_X8_end hr) (by omega) rfl rfl rfl ?_
            refine b_goto (pc' := 112) tb_X8_sortAt r_X8_sortAt_107 rfl ?_
            refine b_sub9 [(0, .inr (.inr (.inl 11))), (3, .inl v41), (4, .inl v42), (6, .inl s44), (7, .inl s48)] ⟨rfl, rfl, rfl, rfl, rfl, trivial⟩ ?_
            exact hj112 _ _ h
        rcases bK_in h with ⟨c1, h⟩ | ⟨c1, h⟩
        · refine b_icT (t := 92) tb_X8_sortAt r_X8_sortAt_80 rfl ((nLe_c _ _).symm.trans c1) ?_
          refine b_ic (pc' := 93) (4294967295) tb_X8_sortAt r_X8_sortAt_92 rfl rfl ?_
          refine b_sub9 [(0, .inr (.inr (.inl 11))), (3, .inl v41), (4, .inl v42), (5, .inl s46), (6, .inl s44)] ⟨rfl, rfl, rfl, rfl, rfl, trivial⟩ ?_
          exact hj93 _ _ h
        · refine b_icF (t := 92) (pc' := 83) tb_X8_sortAt r_X8_sortAt_80 rfl ((nLe_c _ _).symm.trans c1) rfl ?_
          refine b_aln (pc' := 84) (a := .inr (.inr (.inl 11))) tb_X8_sortAt r_X8_sortAt_83 rfl rfl rfl ?_
          refine b_il (pc' := 86) (a := .inl s46) tb_X8_sortAt r_X8_sortAt_84 rfl rfl rfl ?_
          obtain ⟨v73, M72, ov73, h⟩ := cI_in h
          refine b_vI (pc' := 89) tb_X8_sortAt r_X8_sortAt_86 tb_X8_sortAt mo_X8_sortAt (by decide) rfl rfl ov73 (fun r hr => hih _ _ _ hr) (by omega) rfl rfl rfl ?_
          refine b_goto (pc' := 93) tb_X8_sortAt r_X8_sortAt_89 rfl ?_
          refine b_sub9 [(0, .inr (.inr (.inl 11))), (3, .inl v41), (4, .inl v42), (5, .inl s46), (6, .inl s44)] ⟨rfl, rfl, rfl, rfl, rfl, trivial⟩ ?_
          exact hj93 _ _ h
      rcases bK_in h with ⟨c1, h⟩ | ⟨c1, h⟩
      · refine b_ifT (t := 73) tb_X8_sortAt r_X8_sortAt_61 rfl ((zLe_c _).symm.trans c1) ?_
        refine b_il (pc' := 75) (a := .inl v43) tb_X8_sortAt r_X8_sortAt_73 rfl rfl rfl ?_
        refine b_sub9 [(0, .inr (.inr (.inl 11))), (3, .inl v41), (4, .inl v42), (6, .inl s44)] ⟨rfl, rfl, rfl, rfl, trivial⟩ ?_
        exact hj75 _ _ h
      · refine b_ifF (t := 73) (pc' := 64) tb_X8_sortAt r_X8_sortAt_61 rfl ((zLe_c _).symm.trans c1) rfl ?_
        refine b_aln (pc' := 65) (a := .inr (.inr (.inl 11))) tb_X8_sortAt r_X8_sortAt_64 rfl rfl rfl ?_
        refine b_il (pc' := 67) (a := .inl v43) tb_X8_sortAt r_X8_sortAt_65 rfl rfl rfl ?_
        obtain ⟨v75, M74, ov75, h⟩ := cI_in h
        refine b_vI (pc' := 70) tb_X8_sortAt r_X8_sortAt_67 tb_X8_end mo_X8_end (by decide) rfl rfl ov75 (fun r hr => snd_X8_end hr) (by omega) rfl rfl rfl ?_
        refine b_goto (pc' := 75) tb_X8_sortAt r_X8_sortAt_70 rfl ?_
        refine b_sub9 [(0, .inr (.inr (.inl 11))), (3, .inl v41), (4, .inl v42), (6, .inl s44)] ⟨rfl, rfl, rfl, rfl, trivial⟩ ?_
        exact hj75 _ _ h
    rcases bK_in h with ⟨c1, h⟩ | ⟨c1, h⟩
    · refine b_ifT (t := 56) tb_X8_sortAt r_X8_sortAt_44 rfl ((zLe_c _).symm.trans c1) ?_
      refine b_ic (pc' := 57) (4294967295) tb_X8_sortAt r_X8_sortAt_56 rfl rfl ?_
      refine b_sub9 [(0, .inr (.inr (.inl 11))), (3, .inl v41), (4, .inl v42), (5, .inl v43)] ⟨rfl, rfl, rfl, rfl, trivial⟩ ?_
      exact hj57 _ _ h
    · refine b_ifF (t := 56) (pc' := 47) tb_X8_sortAt r_X8_sortAt_44 rfl ((zLe_c _).symm.trans c1) rfl ?_
      refine b_aln (pc' := 48) (a := .inr (.inr (.inl 11))) tb_X8_sortAt r_X8_sortAt_47 rfl rfl rfl ?_
      refine b_il (pc' := 50) (a := .inl v43) tb_X8_sortAt r_X8_sortAt_48 rfl rfl rfl ?_
      obtain ⟨v77, M76, ov77, h⟩ := cI_in h
      refine b_vI (pc' := 53) tb_X8_sortAt r_X8_sortAt_50 tb_X8_sortAt mo_X8_sortAt (by decide) rfl rfl ov77 (fun r hr => hih _ _ _ hr) (by omega) rfl rfl rfl ?_
      refine b_goto (pc' := 57) tb_X8_sortAt r_X8_sortAt_53 rfl ?_
      refine b_sub9 [(0, .inr (.inr (.inl 11))), (3, .inl v41), (4, .inl v42), (5, .inl v43)] ⟨rfl, rfl, rfl, rfl, trivial⟩ ?_
      exact hj57 _ _ h
noncomputable def m_X10_sortOf (M0 : Nat) : RN :=
  rK M0 0 (fun v1 => bK (zNe v1) (cI (m_X10_topAt M0) (fun v7 M6 => cI (m_X8_sortAt 30 v7 M6) (fun v9 M8 => some (Nat.add v9 2, M8)))) none)
set_option maxRecDepth 100000 in
theorem snd_X10_sortOf {l : Launch} {g : GV} {D : va_G} {sl q : Nat} {M0 : Nat} {r : Nat × Nat} (h : m_X10_sortOf M0 = some r) : SN l g D sl 36 0 q q 77 0 [(0, .inr (.inr (.inl 0)))] [] M0 (PR r) := by
  unfold m_X10_sortOf at h
  refine b_aln (pc' := 1) (a := .inr (.inr (.inl 0))) tb_X10_sortOf r_X10_sortOf_0 rfl rfl rfl ?_
  obtain ⟨v1, cv1, h⟩ := rK_in h
  refine b_gi (pc' := 4) tb_X10_sortOf r_X10_sortOf_1 tF_0_10_8 cv1 rfl ?_
  obtain ⟨c1, h⟩ := bK_t h
  refine b_ifT (t := 17) tb_X10_sortOf r_X10_sortOf_4 rfl ((zNe_c _).symm.trans c1) ?_
  refine b_aln (pc' := 18) (a := .inr (.inr (.inl 0))) tb_X10_sortOf r_X10_sortOf_17 rfl rfl rfl ?_
  refine b_gr (pc' := 21) tb_X10_sortOf r_X10_sortOf_18 tF_0_10_1 rfl ?_
  refine b_aln (pc' := 22) (a := .inr (.inr (.inl 0))) tb_X10_sortOf r_X10_sortOf_21 rfl rfl rfl ?_
  obtain ⟨v7, M6, ov7, h⟩ := cI_in h
  refine b_vI (pc' := 25) tb_X10_sortOf r_X10_sortOf_22 tb_X10_topAt mo_X10_topAt (by decide) rfl rfl ov7 (fun r hr => snd_X10_topAt hr) (by decide) rfl rfl rfl ?_
  obtain ⟨v9, M8, ov9, h⟩ := cI_in h
  refine b_vI (pc' := 28) tb_X10_sortOf r_X10_sortOf_25 tb_X8_sortAt mo_X8_sortAt (by decide) rfl rfl ov9 (fun r hr => snd_X8_sortAt _ hr) (by decide) rfl rfl rfl ?_
  exact b_ri tb_X10_sortOf r_X10_sortOf_28 rfl (sj h).symm
noncomputable def m_X10_code (a1 : Nat) (M0 : Nat) : RN :=
  rK M0 0 (fun v1 => bK (zNe v1) (cI (m_X10_topAt M0) (fun v3 M2 => jn (fun (M4 : Nat) => fK (wrX M4 AX 1) (fun M5 => some (0, M5))) (fun (j40 : ( Nat → RN)) => bK (zLt a1) (j40 M2) (cI (m_X8_end v3 M2) (fun v7 M6 => bK (nLt a1 (oSub v7 v3)) (fK (oAdd v3 a1) (fun v8 => lK2 M6 281 780 7500 7656 v8 (fun v9 => bK (nGe v9 32) (cI (m_X10_operatorIn v9 M6) (fun v14 M13 => dvK Nat.mod v9 8 (fun v15 => some (Nat.add (oAdd (oMul 10 v14) v15) 2, M13)))) none))) (j40 M6)))))) (fK (wrX M0 AX 0) (fun M16 => some (0, M16))))
set_option maxRecDepth 100000 in
theorem snd_X10_code {l : Launch} {g : GV} {D : va_G} {sl q : Nat} {u : Nat} {a1 M0 : Nat} {r : Nat × Nat} (hu : r.1 = 0 → 1 ≤ u) (h : m_X10_code a1 M0 = some r) : SN l g D sl 3 u q q 78 0 [(0, .inr (.inr (.inl 0))), (1, .inl a1)] [] M0 (PR r) := by
  unfold m_X10_code at h
  refine b_aln (pc' := 1) (a := .inr (.inr (.inl 0))) tb_X10_code r_X10_code_0 rfl rfl rfl ?_
  obtain ⟨v1, cv1, h⟩ := rK_in h
  refine b_gi (pc' := 4) tb_X10_code r_X10_code_1 tF_0_10_8 cv1 rfl ?_
  rcases bK_in h with ⟨c1, h⟩ | ⟨c1, h⟩
  · refine b_ifT (t := 17) tb_X10_code r_X10_code_4 rfl ((zNe_c _).symm.trans c1) ?_
    refine b_aln (pc' := 18) (a := .inr (.inr (.inl 0))) tb_X10_code r_X10_code_17 rfl rfl rfl ?_
    obtain ⟨v3, M2, ov3, h⟩ := cI_in h
    refine b_vI (pc' := 21) tb_X10_code r_X10_code_18 tb_X10_topAt mo_X10_topAt (by decide) rfl rfl ov3 (fun r hr => snd_X10_topAt hr) (by decide) rfl rfl rfl ?_
    refine b_stn (pc' := 22) [(2, .inl v3), (0, .inr (.inr (.inl 0))), (1, .inl a1)] tb_X10_code r_X10_code_21 rfl rfl rfl rfl ?_
    refine b_iln (pc' := 23) (a := .inl a1) tb_X10_code r_X10_code_22 rfl rfl rfl ?_
    refine jn_in (R := fun (j40 : ( Nat → RN)) => ∀ (M4 : Nat), j40 M4 = some r → SN l g D sl 3 u q q 78 40 [] [] M4 (PR r)) h (fun M4 h => ?_) (fun j40 hj40 h => ?_)
    · skip
      obtain ⟨M5, eM5, h⟩ := fK_v h
      have h9 := sj h
      exact b_th 1 tb_X10_code r_X10_code_40 (by decide) (hu (by rw [← h9])) (by rw [eM5]; exact h9.symm)
    rcases bK_in h with ⟨c1, h⟩ | ⟨c1, h⟩
    · refine b_ifT (t := 40) tb_X10_code r_X10_code_23 rfl ((zLt_c _).symm.trans c1) ?_
      refine b_sub9 [] trivial ?_
      exact hj40 _ h
    · refine b_ifF (t := 40) (pc' := 26) tb_X10_code r_X10_code_23 rfl ((zLt_c _).symm.trans c1) rfl ?_
      refine b_iln (pc' := 27) (a := .inl a1) tb_X10_code r_X10_code_26 rfl rfl rfl ?_
      refine b_aln (pc' := 28) (a := .inr (.inr (.inl 0))) tb_X10_code r_X10_code_27 rfl rfl rfl ?_
      refine b_gr (pc' := 31) tb_X10_code r_X10_code_28 tF_0_10_1 rfl ?_
      refine b_iln (pc' := 32) (a := .inl v3) tb_X10_code r_X10_code_31 rfl rfl rfl ?_
      obtain ⟨v7, M6, ov7, h⟩ := cI_in h
      refine b_vI (pc' := 35) tb_X10_code r_X10_code_32 tb_X8_end mo_X8_end (by decide) rfl rfl ov7 (fun r hr => snd_X8_end hr) (by decide) rfl rfl rfl ?_
      refine b_iln (pc' := 36) (a := .inl v3) tb_X10_code r_X10_code_35 rfl rfl rfl ?_
      refine b_sub (pc' := 37) tb_X10_code r_X10_code_36 rfl ?_
      rcases bK_in h with ⟨c1, h⟩ | ⟨c1, h⟩
      · refine b_icT (t := 50) tb_X10_code r_X10_code_37 rfl ((nLt_c _ _).symm.trans c1) ?_
        refine b_aln (pc' := 51) (a := .inr (.inr (.inl 0))) tb_X10_code r_X10_code_50 rfl rfl rfl ?_
        refine b_gr (pc' := 54) tb_X10_code r_X10_code_51 tF_0_10_1 rfl ?_
        refine b_gr (pc' := 57) tb_X10_code r_X10_code_54 tF_11_8_1 rfl ?_
        refine b_iln (pc' := 58) (a := .inl v3) tb_X10_code r_X10_code_57 rfl rfl rfl ?_
        refine b_iln (pc' := 59) (a := .inl a1) tb_X10_code r_X10_code_58 rfl rfl rfl ?_
        refine b_add (pc' := 60) tb_X10_code r_X10_code_59 rfl ?_
        obtain ⟨v8, ev8, h⟩ := fK_v h
        rw [ev8]
        obtain ⟨v9, _, dv9, cv9, h⟩ := lK2_in h
        refine b_ia2 (pc' := 61) tb_X10_code r_X10_code_60 tA_12 dv9 cv9 rfl ?_
        refine b_stn (pc' := 62) [(3, .inl v9), (2, .inl v3), (0, .inr (.inr (.inl 0))), (1, .inl a1)] tb_X10_code r_X10_code_61 rfl rfl rfl rfl ?_
        refine b_iln (pc' := 63) (a := .inl v9) tb_X10_code r_X10_code_62 rfl rfl rfl ?_
        refine b_bi (pc' := 65) (32) tb_X10_code r_X10_code_63 rfl rfl rfl ?_
        obtain ⟨c1, h⟩ := bK_t h
        refine b_icT (t := 76) tb_X10_code r_X10_code_65 rfl ((nGe_c _ _).symm.trans c1) ?_
        refine b_bi (pc' := 78) (10) tb_X10_code r_X10_code_76 rfl rfl rfl ?_
        refine b_iln (pc' := 79) (a := .inl v9) tb_X10_code r_X10_code_78 rfl rfl rfl ?_
        obtain ⟨v14, M13, ov14, h⟩ := cI_in h
        refine b_sI (pc' := 82) tb_X10_code r_X10_code_79 tb_X10_operatorIn mo_X10_operatorIn (by decide) rfl rfl ov14 (fun r hr => snd_X10_operatorIn hr) (by decide) rfl rfl rfl ?_
        refine b_mul (pc' := 83) tb_X10_code r_X10_code_82 rfl ?_
        refine b_iln (pc' := 84) (a := .inl v9) tb_X10_code r_X10_code_83 rfl rfl rfl ?_
        refine b_bi (pc' := 86) (8) tb_X10_code r_X10_code_84 rfl rfl rfl ?_
        obtain ⟨v15, c1, c2, c3, ev15, h⟩ := dvK_in h
        refine b_rem (pc' := 87) tb_X10_code r_X10_code_86 c1 c2 c3 ev15 rfl ?_
        refine b_add (pc' := 88) tb_X10_code r_X10_code_87 rfl ?_
        exact b_ri tb_X10_code r_X10_code_88 rfl (sj h).symm
      · refine b_icF (t := 50) (pc' := 40) tb_X10_code r_X10_code_37 rfl ((nLt_c _ _).symm.trans c1) rfl ?_
        refine b_sub9 [] trivial ?_
        exact hj40 _ h
  · refine b_ifF (t := 17) (pc' := 7) tb_X10_code r_X10_code_4 rfl ((zNe_c _).symm.trans c1) rfl ?_
    obtain ⟨M16, eM16, h⟩ := fK_v h
    have h9 := sj h
    exact b_th 0 tb_X10_code r_X10_code_7 (by decide) (hu (by rw [← h9])) (by rw [eM16]; exact h9.symm)
noncomputable def m_X8_variablesAt (a1 : Nat) (M0 : Nat) : RN :=
  cI (m_X8_end a1 M0) (fun v2 M1 => lp (fun _ _ _ => none) (fun (j11 : (Nat → Nat →  Nat → RN)) => fun (x3 : Nat) (x4 : Nat) (M5 : Nat) => bK (nGe x4 v2) (some (Nat.add x3 2, M5)) (lK2 M5 281 780 7500 7656 x4 (fun v6 => jn (fun (s7 : Nat) (s8 : Nat) (M9 : Nat) => fK (oOr s8 s7) (fun v10 => fK (oAdd x4 1) (fun v11 => j11 v10 v11 M9))) (fun (j43 : (Nat → Nat →  Nat → RN)) => bK (nGe v6 32) (j43 0 x3 M5) (lK2 M5 281 780 7500 7656 x4 (fun v12 => fK (oShl 1 v12) (fun v13 => j43 v13 x3 M5))))))) (fun (j11 : (Nat → Nat →  Nat → RN)) => j11 0 a1 M1))
set_option maxRecDepth 100000 in
theorem snd_X8_variablesAt {l : Launch} {g : GV} {D : va_G} {sl q : Nat} {a1 M0 : Nat} {r : Nat × Nat} (h : m_X8_variablesAt a1 M0 = some r) : SN l g D sl 2 0 q q 7 0 [(0, .inr (.inr (.inl 11))), (1, .inl a1)] [] M0 (PR r) := by
  unfold m_X8_variablesAt at h
  refine b_ic (pc' := 1) (0) tb_X8_variablesAt r_X8_variablesAt_0 rfl rfl ?_
  refine b_stn (pc' := 2) [(2, .inl 0), (0, .inr (.inr (.inl 11))), (1, .inl a1)] tb_X8_variablesAt r_X8_variablesAt_1 rfl rfl rfl rfl ?_
  refine b_aln (pc' := 3) (a := .inr (.inr (.inl 11))) tb_X8_variablesAt r_X8_variablesAt_2 rfl rfl rfl ?_
  refine b_iln (pc' := 4) (a := .inl a1) tb_X8_variablesAt r_X8_variablesAt_3 rfl rfl rfl ?_
  obtain ⟨v2, M1, ov2, h⟩ := cI_in h
  refine b_vI (pc' := 7) tb_X8_variablesAt r_X8_variablesAt_4 tb_X8_end mo_X8_end (by decide) rfl rfl ov2 (fun r hr => snd_X8_end hr) (by decide) rfl rfl rfl ?_
  refine b_stn (pc' := 8) [(3, .inl v2), (2, .inl 0), (0, .inr (.inr (.inl 11))), (1, .inl a1)] tb_X8_variablesAt r_X8_variablesAt_7 rfl rfl rfl rfl ?_
  refine b_iln (pc' := 9) (a := .inl a1) tb_X8_variablesAt r_X8_variablesAt_8 rfl rfl rfl ?_
  refine b_st (pc' := 11) [(4, .inl a1), (3, .inl v2), (2, .inl 0), (0, .inr (.inr (.inl 11))), (1, .inl a1)] tb_X8_variablesAt r_X8_variablesAt_9 rfl rfl rfl rfl ?_
  refine lp_in (R := fun (j11 : (Nat → Nat → Nat → RN)) => ∀ (x3 x4 M5 : Nat), j11 x3 x4 M5 = some r → SN l g D sl 2 0 q q 7 11 [(0, .inr (.inr (.inl 11))), (2, .inl x3), (3, .inl v2), (4, .inl x4)] [] M5 (PR r)) h (fun _ _ _ h => by cases h) (fun j11 hj11 => ?_) (fun j11 hj11 h => ?_)
  · intro x3 x4 M5 h
    refine b_il (pc' := 13) (a := .inl x4) tb_X8_variablesAt r_X8_variablesAt_11 rfl rfl rfl ?_
    refine b_iln (pc' := 14) (a := .inl v2) tb_X8_variablesAt r_X8_variablesAt_13 rfl rfl rfl ?_
    rcases bK_in h with ⟨c1, h⟩ | ⟨c1, h⟩
    · refine b_icT (t := 51) tb_X8_variablesAt r_X8_variablesAt_14 rfl ((nGe_c _ _).symm.trans c1) ?_
      refine b_iln (pc' := 52) (a := .inl x3) tb_X8_variablesAt r_X8_variablesAt_51 rfl rfl rfl ?_
      exact b_ri tb_X8_variablesAt r_X8_variablesAt_52 rfl (sj h).symm
    · refine b_icF (t := 51) (pc' := 17) tb_X8_variablesAt r_X8_variablesAt_14 rfl ((nGe_c _ _).symm.trans c1) rfl ?_
      refine b_iln (pc' := 18) (a := .inl x3) tb_X8_variablesAt r_X8_variablesAt_17 rfl rfl rfl ?_
      refine b_aln (pc' := 19) (a := .inr (.inr (.inl 11))) tb_X8_variablesAt r_X8_variablesAt_18 rfl rfl rfl ?_
      refine b_gr (pc' := 22) tb_X8_variablesAt r_X8_variablesAt_19 tF_11_8_1 rfl ?_
      refine b_il (pc' := 24) (a := .inl x4) tb_X8_variablesAt r_X8_variablesAt_22 rfl rfl rfl ?_
      obtain ⟨v6, _, dv6, cv6, h⟩ := lK2_in h
      refine b_ia2 (pc' := 25) tb_X8_variablesAt r_X8_variablesAt_24 tA_12 dv6 cv6 rfl ?_
      refine b_bi (pc' := 27) (32) tb_X8_variablesAt r_X8_variablesAt_25 rfl rfl rfl ?_
      refine jn_in (R := fun (j43 : (Nat → Nat → Nat → RN)) => ∀ (s7 s8 M9 : Nat), j43 s7 s8 M9 = some r → SN l g D sl 2 0 q q 7 43 [(0, .inr (.inr (.inl 11))), (3, .inl v2), (4, .inl x4)] [.inl s7, .inl s8] M9 (PR r)) h (fun s7 s8 M9 h => ?_) (fun j43 hj43 h => ?_)
      · skip
        refine b_or (pc' := 44) tb_X8_variablesAt r_X8_variablesAt_43 rfl ?_
        obtain ⟨v10, ev10, h⟩ := fK_v h
        rw [ev10]
        refine b_stn (pc' := 45) [(2, .inl v10), (0, .inr (.inr (.inl 11))), (3, .inl v2), (4, .inl x4)] tb_X8_variablesAt r_X8_variablesAt_44 rfl rfl rfl rfl ?_
        refine b_inc (pc' := 48) (v := x4) (n := 1) [(4, .inl (oAdd x4 1)), (2, .inl v10), (0, .inr (.inr (.inl 11))), (3, .inl v2)] tb_X8_variablesAt r_X8_variablesAt_45 rfl rfl rfl rfl rfl ?_
        obtain ⟨v11, ev11, h⟩ := fK_v h
        rw [ev11]
        refine b_goto (pc' := 11) tb_X8_variablesAt r_X8_variablesAt_48 rfl ?_
        refine b_sub9 [(0, .inr (.inr (.inl 11))), (2, .inl v10), (3, .inl v2), (4, .inl v11)] ⟨rfl, rfl, rfl, rfl, trivial⟩ ?_
        exact hj11 _ _ _ h
      rcases bK_in h with ⟨c1, h⟩ | ⟨c1, h⟩
      · refine b_icT (t := 42) tb_X8_variablesAt r_X8_variablesAt_27 rfl ((nGe_c _ _).symm.trans c1) ?_
        refine b_ic (pc' := 43) (0) tb_X8_variablesAt r_X8_variablesAt_42 rfl rfl ?_
        refine b_sub9 [(0, .inr (.inr (.inl 11))), (3, .inl v2), (4, .inl x4)] ⟨rfl, rfl, rfl, trivial⟩ ?_
        exact hj43 _ _ _ h
      · refine b_icF (t := 42) (pc' := 30) tb_X8_variablesAt r_X8_variablesAt_27 rfl ((nGe_c _ _).symm.trans c1) rfl ?_
        refine b_ic (pc' := 31) (1) tb_X8_variablesAt r_X8_variablesAt_30 rfl rfl ?_
        refine b_aln (pc' := 32) (a := .inr (.inr (.inl 11))) tb_X8_variablesAt r_X8_variablesAt_31 rfl rfl rfl ?_
        refine b_gr (pc' := 35) tb_X8_variablesAt r_X8_variablesAt_32 tF_11_8_1 rfl ?_
        refine b_il (pc' := 37) (a := .inl x4) tb_X8_variablesAt r_X8_variablesAt_35 rfl rfl rfl ?_
        obtain ⟨v12, _, dv12, cv12, h⟩ := lK2_in h
        refine b_ia2 (pc' := 38) tb_X8_variablesAt r_X8_variablesAt_37 tA_12 dv12 cv12 rfl ?_
        refine b_shl (pc' := 39) tb_X8_variablesAt r_X8_variablesAt_38 rfl ?_
        refine b_goto (pc' := 43) tb_X8_variablesAt r_X8_variablesAt_39 rfl ?_
        obtain ⟨v13, ev13, h⟩ := fK_v h
        rw [ev13]
        refine b_sub9 [(0, .inr (.inr (.inl 11))), (3, .inl v2), (4, .inl x4)] ⟨rfl, rfl, rfl, trivial⟩ ?_
        exact hj43 _ _ _ h
  refine b_sub9 [(0, .inr (.inr (.inl 11))), (2, .inl 0), (3, .inl v2), (4, .inl a1)] ⟨rfl, rfl, rfl, rfl, trivial⟩ ?_
  exact hj11 _ _ _ h
noncomputable def m_J6_bitCount_0f7a4 (a0 : Nat) (M0 : Nat) : RN :=
  fK (oSub a0 (oAnd (oUshr a0 1) 1431655765)) (fun v1 => fK (oAdd (oAnd v1 858993459) (oAnd (oUshr v1 2) 858993459)) (fun v2 => fK (oAnd (oAdd v2 (oUshr v2 4)) 252645135) (fun v3 => fK (oAdd v3 (oUshr v3 8)) (fun v4 => fK (oAdd v4 (oUshr v4 16)) (fun v5 => some (Nat.add (oAnd v5 63) 2, M0))))))
set_option maxRecDepth 100000 in
theorem snd_J6_bitCount_0f7a4 {l : Launch} {g : GV} {D : va_G} {sl q : Nat} {a0 M0 : Nat} {r : Nat × Nat} (h : m_J6_bitCount_0f7a4 a0 M0 = some r) : SN l g D sl 1 0 q q 22 0 [(0, .inl a0)] [] M0 (PR r) := by
  unfold m_J6_bitCount_0f7a4 at h
  refine b_iln (pc' := 1) (a := .inl a0) tb_J6_bitCount_0f7a4 r_J6_bitCount_0f7a4_0 rfl rfl rfl ?_
  refine b_iln (pc' := 2) (a := .inl a0) tb_J6_bitCount_0f7a4 r_J6_bitCount_0f7a4_1 rfl rfl rfl ?_
  refine b_ic (pc' := 3) (1) tb_J6_bitCount_0f7a4 r_J6_bitCount_0f7a4_2 rfl rfl ?_
  refine b_ushr (pc' := 4) tb_J6_bitCount_0f7a4 r_J6_bitCount_0f7a4_3 rfl ?_
  refine b_ldcw (pc' := 7) tb_J6_bitCount_0f7a4 r_J6_bitCount_0f7a4_4 rfl ?_
  refine b_and (pc' := 8) tb_J6_bitCount_0f7a4 r_J6_bitCount_0f7a4_7 rfl ?_
  refine b_sub (pc' := 9) tb_J6_bitCount_0f7a4 r_J6_bitCount_0f7a4_8 rfl ?_
  obtain ⟨v1, ev1, h⟩ := fK_v h
  rw [ev1]
  refine b_stn (pc' := 10) [(0, .inl v1)] tb_J6_bitCount_0f7a4 r_J6_bitCount_0f7a4_9 rfl rfl rfl rfl ?_
  refine b_iln (pc' := 11) (a := .inl v1) tb_J6_bitCount_0f7a4 r_J6_bitCount_0f7a4_10 rfl rfl rfl ?_
  refine b_ldcw (pc' := 14) tb_J6_bitCount_0f7a4 r_J6_bitCount_0f7a4_11 rfl ?_
  refine b_and (pc' := 15) tb_J6_bitCount_0f7a4 r_J6_bitCount_0f7a4_14 rfl ?_
  refine b_iln (pc' := 16) (a := .inl v1) tb_J6_bitCount_0f7a4 r_J6_bitCount_0f7a4_15 rfl rfl rfl ?_
  refine b_ic (pc' := 17) (2) tb_J6_bitCount_0f7a4 r_J6_bitCount_0f7a4_16 rfl rfl ?_
  refine b_ushr (pc' := 18) tb_J6_bitCount_0f7a4 r_J6_bitCount_0f7a4_17 rfl ?_
  refine b_ldcw (pc' := 21) tb_J6_bitCount_0f7a4 r_J6_bitCount_0f7a4_18 rfl ?_
  refine b_and (pc' := 22) tb_J6_bitCount_0f7a4 r_J6_bitCount_0f7a4_21 rfl ?_
  refine b_add (pc' := 23) tb_J6_bitCount_0f7a4 r_J6_bitCount_0f7a4_22 rfl ?_
  obtain ⟨v2, ev2, h⟩ := fK_v h
  rw [ev2]
  refine b_stn (pc' := 24) [(0, .inl v2)] tb_J6_bitCount_0f7a4 r_J6_bitCount_0f7a4_23 rfl rfl rfl rfl ?_
  refine b_iln (pc' := 25) (a := .inl v2) tb_J6_bitCount_0f7a4 r_J6_bitCount_0f7a4_24 rfl rfl rfl ?_
  refine b_iln (pc' := 26) (a := .inl v2) tb_J6_bitCount_0f7a4 r_J6_bitCount_0f7a4_25 rfl rfl rfl ?_
  refine b_ic (pc' := 27) (4) tb_J6_bitCount_0f7a4 r_J6_bitCount_0f7a4_26 rfl rfl ?_
  refine b_ushr (pc' := 28) tb_J6_bitCount_0f7a4 r_J6_bitCount_0f7a4_27 rfl ?_
  refine b_add (pc' := 29) tb_J6_bitCount_0f7a4 r_J6_bitCount_0f7a4_28 rfl ?_
  refine b_ldcw (pc' := 32) tb_J6_bitCount_0f7a4 r_J6_bitCount_0f7a4_29 rfl ?_
  refine b_and (pc' := 33) tb_J6_bitCount_0f7a4 r_J6_bitCount_0f7a4_32 rfl ?_
  obtain ⟨v3, ev3, h⟩ := fK_v h
  rw [ev3]
  refine b_stn (pc' := 34) [(0, .inl v3)] tb_J6_bitCount_0f7a4 r_J6_bitCount_0f7a4_33 rfl rfl rfl rfl ?_
  refine b_iln (pc' := 35) (a := .inl v3) tb_J6_bitCount_0f7a4 r_J6_bitCount_0f7a4_34 rfl rfl rfl ?_
  refine b_iln (pc' := 36) (a := .inl v3) tb_J6_bitCount_0f7a4 r_J6_bitCount_0f7a4_35 rfl rfl rfl ?_
  refine b_bi (pc' := 38) (8) tb_J6_bitCount_0f7a4 r_J6_bitCount_0f7a4_36 rfl rfl rfl ?_
  refine b_ushr (pc' := 39) tb_J6_bitCount_0f7a4 r_J6_bitCount_0f7a4_38 rfl ?_
  refine b_add (pc' := 40) tb_J6_bitCount_0f7a4 r_J6_bitCount_0f7a4_39 rfl ?_
  obtain ⟨v4, ev4, h⟩ := fK_v h
  rw [ev4]
  refine b_stn (pc' := 41) [(0, .inl v4)] tb_J6_bitCount_0f7a4 r_J6_bitCount_0f7a4_40 rfl rfl rfl rfl ?_
  refine b_iln (pc' := 42) (a := .inl v4) tb_J6_bitCount_0f7a4 r_J6_bitCount_0f7a4_41 rfl rfl rfl ?_
  refine b_iln (pc' := 43) (a := .inl v4) tb_J6_bitCount_0f7a4 r_J6_bitCount_0f7a4_42 rfl rfl rfl ?_
  refine b_bi (pc' := 45) (16) tb_J6_bitCount_0f7a4 r_J6_bitCount_0f7a4_43 rfl rfl rfl ?_
  refine b_ushr (pc' := 46) tb_J6_bitCount_0f7a4 r_J6_bitCount_0f7a4_45 rfl ?_
  refine b_add (pc' := 47) tb_J6_bitCount_0f7a4 r_J6_bitCount_0f7a4_46 rfl ?_
  obtain ⟨v5, ev5, h⟩ := fK_v h
  rw [ev5]
  refine b_stn (pc' := 48) [(0, .inl v5)] tb_J6_bitCount_0f7a4 r_J6_bitCount_0f7a4_47 rfl rfl rfl rfl ?_
  refine b_iln (pc' := 49) (a := .inl v5) tb_J6_bitCount_0f7a4 r_J6_bitCount_0f7a4_48 rfl rfl rfl ?_
  refine b_bi (pc' := 51) (63) tb_J6_bitCount_0f7a4 r_J6_bitCount_0f7a4_49 rfl rfl rfl ?_
  refine b_and (pc' := 52) tb_J6_bitCount_0f7a4 r_J6_bitCount_0f7a4_51 rfl ?_
  exact b_ri tb_J6_bitCount_0f7a4 r_J6_bitCount_0f7a4_52 rfl (sj h).symm
noncomputable def m_X8_canBePattern (a1 : Nat) (M0 : Nat) : RN :=
  cI (m_X8_variablesAt a1 M0) (fun v2 M1 => cI (m_J6_bitCount_0f7a4 v2 M1) (fun v4 M3 => bK (nGt v4 3) none (rbK 1 M3)))
set_option maxRecDepth 100000 in
theorem snd_X8_canBePattern {l : Launch} {g : GV} {D : va_G} {sl q : Nat} {a1 M0 : Nat} {r : Nat × Nat} (h : m_X8_canBePattern a1 M0 = some r) : SN l g D sl 3 0 q q 36 0 [(0, .inr (.inr (.inl 11))), (1, .inl a1)] [] M0 (PR r) := by
  unfold m_X8_canBePattern at h
  refine b_aln (pc' := 1) (a := .inr (.inr (.inl 11))) tb_X8_canBePattern r_X8_canBePattern_0 rfl rfl rfl ?_
  refine b_iln (pc' := 2) (a := .inl a1) tb_X8_canBePattern r_X8_canBePattern_1 rfl rfl rfl ?_
  obtain ⟨v2, M1, ov2, h⟩ := cI_in h
  refine b_vI (pc' := 5) tb_X8_canBePattern r_X8_canBePattern_2 tb_X8_variablesAt mo_X8_variablesAt (by decide) rfl rfl ov2 (fun r hr => snd_X8_variablesAt hr) (by decide) rfl rfl rfl ?_
  obtain ⟨v4, M3, ov4, h⟩ := cI_in h
  refine b_sI (pc' := 8) tb_X8_canBePattern r_X8_canBePattern_5 tb_J6_bitCount_0f7a4 mo_J6_bitCount_0f7a4 (by decide) rfl rfl ov4 (fun r hr => snd_J6_bitCount_0f7a4 hr) (by decide) rfl rfl rfl ?_
  refine b_ic (pc' := 9) (3) tb_X8_canBePattern r_X8_canBePattern_8 rfl rfl ?_
  obtain ⟨c1, h⟩ := bK_f h
  refine b_icF (t := 16) (pc' := 12) tb_X8_canBePattern r_X8_canBePattern_9 rfl ((nGt_c _ _).symm.trans c1) rfl ?_
  refine b_ic (pc' := 13) (1) tb_X8_canBePattern r_X8_canBePattern_12 rfl rfl ?_
  refine b_goto (pc' := 17) tb_X8_canBePattern r_X8_canBePattern_13 rfl ?_
  obtain ⟨c1, h⟩ := rbK_in h
  exact b_rb tb_X8_canBePattern r_X8_canBePattern_17 rfl c1 h
