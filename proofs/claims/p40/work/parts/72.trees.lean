/-! more of them -/
noncomputable def m_X6_decide (a1 a2 a3 a4 : Nat) (M0 : Nat) : RN :=
  lK M0 7825 1 a1 (fun v1 => bK (zNe v1) none (some (Nat.add 1 2, M0)))
set_option maxRecDepth 100000 in
theorem snd_X6_decide {l : Launch} {g : GV} {D : va_G} {sl q : Nat} {a1 a2 a3 a4 M0 : Nat} {r : Nat × Nat} (h : m_X6_decide a1 a2 a3 a4 M0 = some r) : SN l g D sl 9 0 q q 53 0 [(0, .inr (.inr (.inl 40))), (1, .inl a1), (2, .inl a2), (3, .inl a3), (4, .inl a4)] [] M0 (PR r) := by
  unfold m_X6_decide at h
  refine b_aln (pc' := 1) (a := .inr (.inr (.inl 40))) tb_X6_decide r_X6_decide_0 rfl rfl rfl ?_
  refine b_gr (pc' := 4) tb_X6_decide r_X6_decide_1 tF_40_7_1 rfl ?_
  refine b_gr (pc' := 7) tb_X6_decide r_X6_decide_4 tF_17_3_4 rfl ?_
  refine b_iln (pc' := 8) (a := .inl a1) tb_X6_decide r_X6_decide_7 rfl rfl rfl ?_
  obtain ⟨v1, dv1, cv1, h⟩ := lK_in h
  refine b_ba (pc' := 9) tb_X6_decide r_X6_decide_8 tA_18 dv1 cv1 rfl ?_
  obtain ⟨c1, h⟩ := bK_f h
  refine b_ifF (t := 14) (pc' := 12) tb_X6_decide r_X6_decide_9 rfl ((zNe_c _).symm.trans c1) rfl ?_
  refine b_ic (pc' := 13) (1) tb_X6_decide r_X6_decide_12 rfl rfl ?_
  exact b_ri tb_X6_decide r_X6_decide_13 rfl (sj h).symm
noncomputable def m_X3_giveMatch (a1 a2 a3 : Nat) (M0 : Nat) : RN :=
  cI (m_X8_variablesAt a1 M0) (fun v2 M1 => lK2 M1 5731 660 7500 8932 a2 (fun v3 => cV (m_X8_giveNothing M1) (fun M4 => lp (fun _ _ => none) (fun (j32 : (Nat →  Nat → RN)) => fun (x5 : Nat) (M6 : Nat) => bK (zLt x5) (some (1, M6)) (hK v2 x5 (fun v7 => bK (nNe (oAnd v7 1) 1) (fK (oAdd x5 4294967295) (fun v9 => j32 v9 M6)) none))) (fun (j32 : (Nat →  Nat → RN)) => j32 9 M4))))
set_option maxRecDepth 100000 in
theorem snd_X3_giveMatch {l : Launch} {g : GV} {D : va_G} {sl q : Nat} {a1 a2 a3 M0 : Nat} {r : Nat × Nat} (h : m_X3_giveMatch a1 a2 a3 M0 = some r) : SN l g D sl 11 0 q q 18 0 [(0, .inr (.inr (.inl 19))), (1, .inl a1), (2, .inl a2), (3, .inl a3)] [] M0 (PR r) := by
  unfold m_X3_giveMatch at h
  refine b_aln (pc' := 1) (a := .inr (.inr (.inl 19))) tb_X3_giveMatch r_X3_giveMatch_0 rfl rfl rfl ?_
  refine b_gr (pc' := 4) tb_X3_giveMatch r_X3_giveMatch_1 tF_19_4_0 rfl ?_
  refine b_iln (pc' := 5) (a := .inl a1) tb_X3_giveMatch r_X3_giveMatch_4 rfl rfl rfl ?_
  obtain ⟨v2, M1, ov2, h⟩ := cI_in h
  refine b_vI (pc' := 8) tb_X3_giveMatch r_X3_giveMatch_5 tb_X8_variablesAt mo_X8_variablesAt (by decide) rfl rfl ov2 (fun r hr => snd_X8_variablesAt hr) (by decide) rfl rfl rfl ?_
  refine b_st (pc' := 10) [(4, .inl v2), (0, .inr (.inr (.inl 19))), (1, .inl a1), (2, .inl a2), (3, .inl a3)] tb_X3_giveMatch r_X3_giveMatch_8 rfl rfl rfl rfl ?_
  refine b_aln (pc' := 11) (a := .inr (.inr (.inl 19))) tb_X3_giveMatch r_X3_giveMatch_10 rfl rfl rfl ?_
  refine b_gr (pc' := 14) tb_X3_giveMatch r_X3_giveMatch_11 tF_19_4_0 rfl ?_
  refine b_gr (pc' := 17) tb_X3_giveMatch r_X3_giveMatch_14 tF_11_9_1 rfl ?_
  refine b_iln (pc' := 18) (a := .inl a2) tb_X3_giveMatch r_X3_giveMatch_17 rfl rfl rfl ?_
  obtain ⟨v3, _, dv3, cv3, h⟩ := lK2_in h
  refine b_ia2 (pc' := 19) tb_X3_giveMatch r_X3_giveMatch_18 tA_12 dv3 cv3 rfl ?_
  refine b_st (pc' := 21) [(5, .inl v3), (4, .inl v2), (0, .inr (.inr (.inl 19))), (1, .inl a1), (2, .inl a2), (3, .inl a3)] tb_X3_giveMatch r_X3_giveMatch_19 rfl rfl rfl rfl ?_
  refine b_aln (pc' := 22) (a := .inr (.inr (.inl 19))) tb_X3_giveMatch r_X3_giveMatch_21 rfl rfl rfl ?_
  refine b_gr (pc' := 25) tb_X3_giveMatch r_X3_giveMatch_22 tF_19_4_0 rfl ?_
  obtain ⟨M4, oM4, h⟩ := cV_in h
  refine b_vV (pc' := 28) tb_X3_giveMatch r_X3_giveMatch_25 tb_X8_giveNothing mo_X8_giveNothing (by decide) rfl rfl oM4 (fun r hr => snd_X8_giveNothing hr) (by decide) rfl rfl rfl ?_
  refine b_bi (pc' := 30) (9) tb_X3_giveMatch r_X3_giveMatch_28 rfl rfl rfl ?_
  refine b_st (pc' := 32) [(6, .inl 9), (5, .inl v3), (4, .inl v2), (0, .inr (.inr (.inl 19))), (1, .inl a1), (2, .inl a2), (3, .inl a3)] tb_X3_giveMatch r_X3_giveMatch_30 rfl rfl rfl rfl ?_
  refine lp_in (R := fun (j32 : (Nat → Nat → RN)) => ∀ (x5 M6 : Nat), j32 x5 M6 = some r → SN l g D sl 11 0 q q 18 32 [(4, .inl v2), (6, .inl x5)] [] M6 (PR r)) h (fun _ _ h => by cases h) (fun j32 hj32 => ?_) (fun j32 hj32 h => ?_)
  · intro x5 M6 h
    refine b_il (pc' := 34) (a := .inl x5) tb_X3_giveMatch r_X3_giveMatch_32 rfl rfl rfl ?_
    rcases bK_in h with ⟨c1, h⟩ | ⟨c1, h⟩
    · refine b_ifT (t := 88) tb_X3_giveMatch r_X3_giveMatch_34 rfl ((zLt_c _).symm.trans c1) ?_
      exact b_vo tb_X3_giveMatch r_X3_giveMatch_88 (sj h).symm
    · refine b_ifF (t := 88) (pc' := 37) tb_X3_giveMatch r_X3_giveMatch_34 rfl ((zLt_c _).symm.trans c1) rfl ?_
      refine b_il (pc' := 39) (a := .inl v2) tb_X3_giveMatch r_X3_giveMatch_37 rfl rfl rfl ?_
      refine b_il (pc' := 41) (a := .inl x5) tb_X3_giveMatch r_X3_giveMatch_39 rfl rfl rfl ?_
      obtain ⟨v7, c1, ev7, h⟩ := hK_in h
      refine b_shr (pc' := 42) tb_X3_giveMatch r_X3_giveMatch_41 c1 ev7 rfl ?_
      refine b_ic (pc' := 43) (1) tb_X3_giveMatch r_X3_giveMatch_42 rfl rfl ?_
      refine b_and (pc' := 44) tb_X3_giveMatch r_X3_giveMatch_43 rfl ?_
      refine b_ic (pc' := 45) (1) tb_X3_giveMatch r_X3_giveMatch_44 rfl rfl ?_
      obtain ⟨c1, h⟩ := bK_t h
      refine b_icT (t := 82) tb_X3_giveMatch r_X3_giveMatch_45 rfl ((nNe_c _ _).symm.trans c1) ?_
      refine b_inc (pc' := 85) (v := x5) (n := 4294967295) [(6, .inl (oAdd x5 4294967295)), (4, .inl v2)] tb_X3_giveMatch r_X3_giveMatch_82 rfl rfl rfl rfl rfl ?_
      obtain ⟨v9, ev9, h⟩ := fK_v h
      rw [ev9]
      refine b_goto (pc' := 32) tb_X3_giveMatch r_X3_giveMatch_85 rfl ?_
      refine b_sub9 [(4, .inl v2), (6, .inl v9)] ⟨rfl, rfl, trivial⟩ ?_
      exact hj32 _ _ h
  refine b_sub9 [(4, .inl v2), (6, .inl 9)] ⟨rfl, rfl, trivial⟩ ?_
  exact hj32 _ _ h
noncomputable def m_X8_settle (a1 a2 : Nat) (M0 : Nat) : RN :=
  bK (nGe a2 a1) (cI (m_X8_end a2 M0) (fun v7 M6 => fK (oSub v7 a2) (fun v8 => cpK M6 5731 660 7500 8932 a2 a1 v8 (fun M9 => pK M9 7903 (oAdd a1 v8) (fun M10 => some (Nat.add a1 2, M10)))))) none
set_option maxRecDepth 100000 in
theorem snd_X8_settle {l : Launch} {g : GV} {D : va_G} {sl q : Nat} {a1 a2 M0 : Nat} {r : Nat × Nat} (h : m_X8_settle a1 a2 M0 = some r) : SN l g D sl 10 0 q q 34 0 [(0, .inr (.inr (.inl 11))), (1, .inl a1), (2, .inl a2)] [] M0 (PR r) := by
  unfold m_X8_settle at h
  refine b_iln (pc' := 1) (a := .inl a2) tb_X8_settle r_X8_settle_0 rfl rfl rfl ?_
  refine b_iln (pc' := 2) (a := .inl a1) tb_X8_settle r_X8_settle_1 rfl rfl rfl ?_
  obtain ⟨c1, h⟩ := bK_t h
  refine b_icT (t := 12) tb_X8_settle r_X8_settle_2 rfl ((nGe_c _ _).symm.trans c1) ?_
  refine b_aln (pc' := 13) (a := .inr (.inr (.inl 11))) tb_X8_settle r_X8_settle_12 rfl rfl rfl ?_
  refine b_iln (pc' := 14) (a := .inl a2) tb_X8_settle r_X8_settle_13 rfl rfl rfl ?_
  obtain ⟨v7, M6, ov7, h⟩ := cI_in h
  refine b_vI (pc' := 17) tb_X8_settle r_X8_settle_14 tb_X8_end mo_X8_end (by decide) rfl rfl ov7 (fun r hr => snd_X8_end hr) (by decide) rfl rfl rfl ?_
  refine b_iln (pc' := 18) (a := .inl a2) tb_X8_settle r_X8_settle_17 rfl rfl rfl ?_
  refine b_sub (pc' := 19) tb_X8_settle r_X8_settle_18 rfl ?_
  obtain ⟨v8, ev8, h⟩ := fK_v h
  rw [ev8]
  refine b_stn (pc' := 20) [(3, .inl v8), (0, .inr (.inr (.inl 11))), (1, .inl a1), (2, .inl a2)] tb_X8_settle r_X8_settle_19 rfl rfl rfl rfl ?_
  refine b_aln (pc' := 21) (a := .inr (.inr (.inl 11))) tb_X8_settle r_X8_settle_20 rfl rfl rfl ?_
  refine b_gr (pc' := 24) tb_X8_settle r_X8_settle_21 tF_11_9_1 rfl ?_
  refine b_iln (pc' := 25) (a := .inl a2) tb_X8_settle r_X8_settle_24 rfl rfl rfl ?_
  refine b_aln (pc' := 26) (a := .inr (.inr (.inl 11))) tb_X8_settle r_X8_settle_25 rfl rfl rfl ?_
  refine b_gr (pc' := 29) tb_X8_settle r_X8_settle_26 tF_11_9_1 rfl ?_
  refine b_iln (pc' := 30) (a := .inl a1) tb_X8_settle r_X8_settle_29 rfl rfl rfl ?_
  refine b_iln (pc' := 31) (a := .inl v8) tb_X8_settle r_X8_settle_30 rfl rfl rfl ?_
  obtain ⟨M9, _, _, dM9, fM9, cM9, h⟩ := cpK_in h
  refine b_cp (by decide) (pc' := 34) tb_X8_settle r_X8_settle_31 tA_12 rfl dM9 fM9 cM9 rfl ?_
  refine b_aln (pc' := 35) (a := .inr (.inr (.inl 11))) tb_X8_settle r_X8_settle_34 rfl rfl rfl ?_
  refine b_iln (pc' := 36) (a := .inl a1) tb_X8_settle r_X8_settle_35 rfl rfl rfl ?_
  refine b_iln (pc' := 37) (a := .inl v8) tb_X8_settle r_X8_settle_36 rfl rfl rfl ?_
  refine b_add (pc' := 38) tb_X8_settle r_X8_settle_37 rfl ?_
  obtain ⟨M10, cM10, h⟩ := pK_in h
  refine b_pi (pc' := 41) tb_X8_settle r_X8_settle_38 rfl tF_11_9_2 cM10 rfl ?_
  refine b_iln (pc' := 42) (a := .inl a1) tb_X8_settle r_X8_settle_41 rfl rfl rfl ?_
  exact b_ri tb_X8_settle r_X8_settle_42 rfl (sj h).symm
noncomputable def m_X8_await (a1 : Nat) (M0 : Nat) : RN :=
  rK M0 7904 (fun v1 => jn (fun (M2 : Nat) => some (1, M2)) (fun (j30 : ( Nat → RN)) => bK (nGe v1 1280) (j30 M0) (rK M0 7904 (fun v3 => sK M0 7898 1 v3 a1 (fun M4 => rK M4 7904 (fun v5 => pK M4 7904 (oAdd v5 1) (fun M6 => j30 M6)))))))
set_option maxRecDepth 100000 in
theorem snd_X8_await {l : Launch} {g : GV} {D : va_G} {sl q : Nat} {a1 M0 : Nat} {r : Nat × Nat} (h : m_X8_await a1 M0 = some r) : SN l g D sl 9 0 q q 11 0 [(0, .inr (.inr (.inl 11))), (1, .inl a1)] [] M0 (PR r) := by
  unfold m_X8_await at h
  refine b_aln (pc' := 1) (a := .inr (.inr (.inl 11))) tb_X8_await r_X8_await_0 rfl rfl rfl ?_
  obtain ⟨v1, cv1, h⟩ := rK_in h
  refine b_gi (pc' := 4) tb_X8_await r_X8_await_1 tF_11_9_4 cv1 rfl ?_
  refine b_si (pc' := 7) (1280) tb_X8_await r_X8_await_4 rfl rfl rfl ?_
  refine jn_in (R := fun (j30 : ( Nat → RN)) => ∀ (M2 : Nat), j30 M2 = some r → SN l g D sl 9 0 q q 11 30 [] [] M2 (PR r)) h (fun M2 h => ?_) (fun j30 hj30 h => ?_)
  · skip
    exact b_vo tb_X8_await r_X8_await_30 (sj h).symm
  rcases bK_in h with ⟨c1, h⟩ | ⟨c1, h⟩
  · refine b_icT (t := 30) tb_X8_await r_X8_await_7 rfl ((nGe_c _ _).symm.trans c1) ?_
    refine b_sub9 [] trivial ?_
    exact hj30 _ h
  · refine b_icF (t := 30) (pc' := 10) tb_X8_await r_X8_await_7 rfl ((nGe_c _ _).symm.trans c1) rfl ?_
    refine b_aln (pc' := 11) (a := .inr (.inr (.inl 11))) tb_X8_await r_X8_await_10 rfl rfl rfl ?_
    refine b_gr (pc' := 14) tb_X8_await r_X8_await_11 tF_11_9_3 rfl ?_
    refine b_aln (pc' := 15) (a := .inr (.inr (.inl 11))) tb_X8_await r_X8_await_14 rfl rfl rfl ?_
    obtain ⟨v3, cv3, h⟩ := rK_in h
    refine b_gi (pc' := 18) tb_X8_await r_X8_await_15 tF_11_9_4 cv3 rfl ?_
    refine b_iln (pc' := 19) (a := .inl a1) tb_X8_await r_X8_await_18 rfl rfl rfl ?_
    obtain ⟨M4, dM4, cM4, h⟩ := sK_in h
    refine b_is (pc' := 20) tb_X8_await r_X8_await_19 tA_13 dM4 cM4 rfl ?_
    refine b_aln (pc' := 21) (a := .inr (.inr (.inl 11))) tb_X8_await r_X8_await_20 rfl rfl rfl ?_
    refine b_dup (pc' := 22) tb_X8_await r_X8_await_21 rfl rfl ?_
    obtain ⟨v5, cv5, h⟩ := rK_in h
    refine b_gi (pc' := 25) tb_X8_await r_X8_await_22 tF_11_9_4 cv5 rfl ?_
    refine b_ic (pc' := 26) (1) tb_X8_await r_X8_await_25 rfl rfl ?_
    refine b_add (pc' := 27) tb_X8_await r_X8_await_26 rfl ?_
    obtain ⟨M6, cM6, h⟩ := pK_in h
    refine b_pi (pc' := 30) tb_X8_await r_X8_await_27 rfl tF_11_9_4 cM6 rfl ?_
    refine b_sub9 [] trivial ?_
    exact hj30 _ h
noncomputable def m_X8_rebuild (d : Nat) : Nat → Nat → RN := @Nat.rec (fun _ => Nat → Nat → RN) (fun _ _ => none) (fun _ ih a1 M0 =>
  rK M0 7905 (fun v1 => bK (nNe a1 v1) (lK2 M0 5731 660 7500 8932 a1 (fun v49 => bK (nGe v49 32) (rK M0 7904 (fun v73 => fK (oAdd a1 1) (fun v74 => lp (fun _ _ _ => none) (fun (j60 : (Nat → Nat →  Nat → RN)) => fun (x75 : Nat) (x76 : Nat) (M77 : Nat) => dvK Nat.mod v49 8 (fun v78 => bK (nGe x76 v78) (cI (m_X10_operatorIn v49 M77) (fun v80 M79 => rK M79 7907 (fun v81 => bK (zEq v81) (cI (m_X8_putOn v80 v73 M79) (fun v85 M84 => some (Nat.add v85 2, M84))) none))) (cI (ih x75 M77) (fun v87 M86 => bK (zGe v87) (cV (m_X8_await v87 M86) (fun M92 => cI (m_X8_end x75 M92) (fun v94 M93 => fK (oAdd x76 1) (fun v95 => j60 v94 v95 M93)))) none)))) (fun (j60 : (Nat → Nat →  Nat → RN)) => j60 v74 0 M0)))) none)) none)) d
set_option maxRecDepth 100000 in
theorem snd_X8_rebuild {l : Launch} {g : GV} {D : va_G} {sl q : Nat} (d : Nat) {a1 M0 : Nat} {r : Nat × Nat} (h : m_X8_rebuild d a1 M0 = some r) : SN l g D sl (d + 14) 0 q q 4 0 [(0, .inr (.inr (.inl 11))), (1, .inl a1)] [] M0 (PR r) := by
  induction d generalizing a1 M0 r with
  | zero => cases h
  | succ d ih0 =>
    have hih : ∀ (a1 M0 : Nat) (r : Nat × Nat), m_X8_rebuild d a1 M0 = some r → SN l g D sl (d + 14) 0 q q 4 0 [(0, .inr (.inr (.inl 11))), (1, .inl a1)] [] M0 (PR r) := fun a1 M0 r h => ih0 h
    clear ih0
    refine SN.hup (h := (d + 14 + 1)) (by omega) ?_
    generalize eih : m_X8_rebuild d = ih at hih
    have h : (fun (ih : Nat → Nat → RN) => (fun (a1 M0 : Nat) =>
  rK M0 7905 (fun v1 => bK (nNe a1 v1) (lK2 M0 5731 660 7500 8932 a1 (fun v49 => bK (nGe v49 32) (rK M0 7904 (fun v73 => fK (oAdd a1 1) (fun v74 => lp (fun _ _ _ => none) (fun (j60 : (Nat → Nat →  Nat → RN)) => fun (x75 : Nat) (x76 : Nat) (M77 : Nat) => dvK Nat.mod v49 8 (fun v78 => bK (nGe x76 v78) (cI (m_X10_operatorIn v49 M77) (fun v80 M79 => rK M79 7907 (fun v81 => bK (zEq v81) (cI (m_X8_putOn v80 v73 M79) (fun v85 M84 => some (Nat.add v85 2, M84))) none))) (cI (ih x75 M77) (fun v87 M86 => bK (zGe v87) (cV (m_X8_await v87 M86) (fun M92 => cI (m_X8_end x75 M92) (fun v94 M93 => fK (oAdd x76 1) (fun v95 => j60 v94 v95 M93)))) none)))) (fun (j60 : (Nat → Nat →  Nat → RN)) => j60 v74 0 M0)))) none)) none))) ih a1 M0 = some r := by rw [← eih]; exact h
    clear eih
    refine b_iln (pc' := 1) (a := .inl a1) tb_X8_rebuild r_X8_rebuild_0 rfl rfl rfl ?_
    refine b_aln (pc' := 2) (a := .inr (.inr (.inl 11))) tb_X8_rebuild r_X8_rebuild_1 rfl rfl rfl ?_
    obtain ⟨v1, cv1, h⟩ := rK_in h
    refine b_gi (pc' := 5) tb_X8_rebuild r_X8_rebuild_2 tF_11_9_8 cv1 rfl ?_
    obtain ⟨c1, h⟩ := bK_t h
    refine b_icT (t := 13) tb_X8_rebuild r_X8_rebuild_5 rfl ((nNe_c _ _).symm.trans c1) ?_
    refine b_aln (pc' := 14) (a := .inr (.inr (.inl 11))) tb_X8_rebuild r_X8_rebuild_13 rfl rfl rfl ?_
    refine b_gr (pc' := 17) tb_X8_rebuild r_X8_rebuild_14 tF_11_9_1 rfl ?_
    refine b_iln (pc' := 18) (a := .inl a1) tb_X8_rebuild r_X8_rebuild_17 rfl rfl rfl ?_
    obtain ⟨v49, _, dv49, cv49, h⟩ := lK2_in h
    refine b_ia2 (pc' := 19) tb_X8_rebuild r_X8_rebuild_18 tA_12 dv49 cv49 rfl ?_
    refine b_stn (pc' := 20) [(2, .inl v49), (0, .inr (.inr (.inl 11))), (1, .inl a1)] tb_X8_rebuild r_X8_rebuild_19 rfl rfl rfl rfl ?_
    refine b_iln (pc' := 21) (a := .inl v49) tb_X8_rebuild r_X8_rebuild_20 rfl rfl rfl ?_
    refine b_bi (pc' := 23) (32) tb_X8_rebuild r_X8_rebuild_21 rfl rfl rfl ?_
    obtain ⟨c1, h⟩ := bK_t h
    refine b_icT (t := 47) tb_X8_rebuild r_X8_rebuild_23 rfl ((nGe_c _ _).symm.trans c1) ?_
    refine b_aln (pc' := 48) (a := .inr (.inr (.inl 11))) tb_X8_rebuild r_X8_rebuild_47 rfl rfl rfl ?_
    obtain ⟨v73, cv73, h⟩ := rK_in h
    refine b_gi (pc' := 51) tb_X8_rebuild r_X8_rebuild_48 tF_11_9_4 cv73 rfl ?_
    refine b_stn (pc' := 52) [(3, .inl v73), (2, .inl v49), (0, .inr (.inr (.inl 11))), (1, .inl a1)] tb_X8_rebuild r_X8_rebuild_51 rfl rfl rfl rfl ?_
    refine b_iln (pc' := 53) (a := .inl a1) tb_X8_rebuild r_X8_rebuild_52 rfl rfl rfl ?_
    refine b_ic (pc' := 54) (1) tb_X8_rebuild r_X8_rebuild_53 rfl rfl ?_
    refine b_add (pc' := 55) tb_X8_rebuild r_X8_rebuild_54 rfl ?_
    obtain ⟨v74, ev74, h⟩ := fK_v h
    rw [ev74]
    refine b_st (pc' := 57) [(4, .inl v74), (3, .inl v73), (2, .inl v49), (0, .inr (.inr (.inl 11))), (1, .inl a1)] tb_X8_rebuild r_X8_rebuild_55 rfl rfl rfl rfl ?_
    refine b_ic (pc' := 58) (0) tb_X8_rebuild r_X8_rebuild_57 rfl rfl ?_
    refine b_st (pc' := 60) [(5, .inl 0), (4, .inl v74), (3, .inl v73), (2, .inl v49), (0, .inr (.inr (.inl 11))), (1, .inl a1)] tb_X8_rebuild r_X8_rebuild_58 rfl rfl rfl rfl ?_
    refine lp_in (R := fun (j60 : (Nat → Nat → Nat → RN)) => ∀ (x75 x76 M77 : Nat), j60 x75 x76 M77 = some r → SN l g D sl (d + 14 + 1) 0 q q 4 60 [(0, .inr (.inr (.inl 11))), (2, .inl v49), (3, .inl v73), (4, .inl x75), (5, .inl x76)] [] M77 (PR r)) h (fun _ _ _ h => by cases h) (fun j60 hj60 => ?_) (fun j60 hj60 h => ?_)
    · intro x75 x76 M77 h
      refine b_il (pc' := 62) (a := .inl x76) tb_X8_rebuild r_X8_rebuild_60 rfl rfl rfl ?_
      refine b_iln (pc' := 63) (a := .inl v49) tb_X8_rebuild r_X8_rebuild_62 rfl rfl rfl ?_
      refine b_bi (pc' := 65) (8) tb_X8_rebuild r_X8_rebuild_63 rfl rfl rfl ?_
      obtain ⟨v78, c1, c2, c3, ev78, h⟩ := dvK_in h
      refine b_rem (pc' := 66) tb_X8_rebuild r_X8_rebuild_65 c1 c2 c3 ev78 rfl ?_
      rcases bK_in h with ⟨c1, h⟩ | ⟨c1, h⟩
      · refine b_icT (t := 109) tb_X8_rebuild r_X8_rebuild_66 rfl ((nGe_c _ _).symm.trans c1) ?_
        refine b_iln (pc' := 110) (a := .inl v49) tb_X8_rebuild r_X8_rebuild_109 rfl rfl rfl ?_
        obtain ⟨v80, M79, ov80, h⟩ := cI_in h
        refine b_sI (pc' := 113) tb_X8_rebuild r_X8_rebuild_110 tb_X10_operatorIn mo_X10_operatorIn (by decide) rfl rfl ov80 (fun r hr => snd_X10_operatorIn hr) (by omega) rfl rfl rfl ?_
        refine b_st (pc' := 115) [(5, .inl v80), (0, .inr (.inr (.inl 11))), (2, .inl v49), (3, .inl v73), (4, .inl x75)] tb_X8_rebuild r_X8_rebuild_113 rfl rfl rfl rfl ?_
        refine b_aln (pc' := 116) (a := .inr (.inr (.inl 11))) tb_X8_rebuild r_X8_rebuild_115 rfl rfl rfl ?_
        refine b_aln (pc' := 117) (a := .inr (.inr (.inl 11))) tb_X8_rebuild r_X8_rebuild_116 rfl rfl rfl ?_
        obtain ⟨v81, cv81, h⟩ := rK_in h
        refine b_gi (pc' := 120) tb_X8_rebuild r_X8_rebuild_117 tF_11_9_10 cv81 rfl ?_
        obtain ⟨c1, h⟩ := bK_t h
        refine b_ifT (t := 136) tb_X8_rebuild r_X8_rebuild_120 rfl ((zEq_c _).symm.trans c1) ?_
        refine b_il (pc' := 138) (a := .inl v80) tb_X8_rebuild r_X8_rebuild_136 rfl rfl rfl ?_
        refine b_iln (pc' := 139) (a := .inl v73) tb_X8_rebuild r_X8_rebuild_138 rfl rfl rfl ?_
        obtain ⟨v85, M84, ov85, h⟩ := cI_in h
        refine b_vI (pc' := 142) tb_X8_rebuild r_X8_rebuild_139 tb_X8_putOn mo_X8_putOn (by decide) rfl rfl ov85 (fun r hr => snd_X8_putOn hr) (by omega) rfl rfl rfl ?_
        exact b_ri tb_X8_rebuild r_X8_rebuild_142 rfl (sj h).symm
      · refine b_icF (t := 109) (pc' := 69) tb_X8_rebuild r_X8_rebuild_66 rfl ((nGe_c _ _).symm.trans c1) rfl ?_
        refine b_aln (pc' := 70) (a := .inr (.inr (.inl 11))) tb_X8_rebuild r_X8_rebuild_69 rfl rfl rfl ?_
        refine b_il (pc' := 72) (a := .inl x75) tb_X8_rebuild r_X8_rebuild_70 rfl rfl rfl ?_
        obtain ⟨v87, M86, ov87, h⟩ := cI_in h
        refine b_vI (pc' := 75) tb_X8_rebuild r_X8_rebuild_72 tb_X8_rebuild mo_X8_rebuild (by decide) rfl rfl ov87 (fun r hr => hih _ _ _ hr) (by omega) rfl rfl rfl ?_
        refine b_st (pc' := 77) [(6, .inl v87), (0, .inr (.inr (.inl 11))), (2, .inl v49), (3, .inl v73), (4, .inl x75), (5, .inl x76)] tb_X8_rebuild r_X8_rebuild_75 rfl rfl rfl rfl ?_
        refine b_il (pc' := 79) (a := .inl v87) tb_X8_rebuild r_X8_rebuild_77 rfl rfl rfl ?_
        obtain ⟨c1, h⟩ := bK_t h
        refine b_ifT (t := 89) tb_X8_rebuild r_X8_rebuild_79 rfl ((zGe_c _).symm.trans c1) ?_
        refine b_aln (pc' := 90) (a := .inr (.inr (.inl 11))) tb_X8_rebuild r_X8_rebuild_89 rfl rfl rfl ?_
        refine b_il (pc' := 92) (a := .inl v87) tb_X8_rebuild r_X8_rebuild_90 rfl rfl rfl ?_
        obtain ⟨M92, oM92, h⟩ := cV_in h
        refine b_vV (pc' := 95) tb_X8_rebuild r_X8_rebuild_92 tb_X8_await mo_X8_await (by decide) rfl rfl oM92 (fun r hr => snd_X8_await hr) (by omega) rfl rfl rfl ?_
        refine b_aln (pc' := 96) (a := .inr (.inr (.inl 11))) tb_X8_rebuild r_X8_rebuild_95 rfl rfl rfl ?_
        refine b_il (pc' := 98) (a := .inl x75) tb_X8_rebuild r_X8_rebuild_96 rfl rfl rfl ?_
        obtain ⟨v94, M93, ov94, h⟩ := cI_in h
        refine b_vI (pc' := 101) tb_X8_rebuild r_X8_rebuild_98 tb_X8_end mo_X8_end (by decide) rfl rfl ov94 (fun r hr => snd_X8_end hr) (by omega) rfl rfl rfl ?_
        refine b_st (pc' := 103) [(4, .inl v94), (6, .inl v87), (0, .inr (.inr (.inl 11))), (2, .inl v49), (3, .inl v73), (5, .inl x76)] tb_X8_rebuild r_X8_rebuild_101 rfl rfl rfl rfl ?_
        refine b_inc (pc' := 106) (v := x76) (n := 1) [(5, .inl (oAdd x76 1)), (4, .inl v94), (6, .inl v87), (0, .inr (.inr (.inl 11))), (2, .inl v49), (3, .inl v73)] tb_X8_rebuild r_X8_rebuild_103 rfl rfl rfl rfl rfl ?_
        obtain ⟨v95, ev95, h⟩ := fK_v h
        rw [ev95]
        refine b_goto (pc' := 60) tb_X8_rebuild r_X8_rebuild_106 rfl ?_
        refine b_sub9 [(0, .inr (.inr (.inl 11))), (2, .inl v49), (3, .inl v73), (4, .inl v94), (5, .inl v95)] ⟨rfl, rfl, rfl, rfl, rfl, trivial⟩ ?_
        exact hj60 _ _ _ h
    refine b_sub9 [(0, .inr (.inr (.inl 11))), (2, .inl v49), (3, .inl v73), (4, .inl v74), (5, .inl 0)] ⟨rfl, rfl, rfl, rfl, rfl, trivial⟩ ?_
    exact hj60 _ _ _ h
noncomputable def m_X6_rewritten (a1 a2 : Nat) (M0 : Nat) : RN :=
  rK M0 7903 (fun v1 => rK M0 7877 (fun v2 => bK (nGe 0 v2) none (cI (m_X2_canFit 0 a1 M0) (fun v4 M3 => bK (zEq v4) none (cI (m_X2_partAt 0 0 M3) (fun v6 M5 => cI (m_X3_list v6 a1 M5) (fun v8 M7 => rK M7 7890 (fun v9 => rK M7 7891 (fun v10 => bK (nGe 0 v8) none (fK (oAdd v9 0) (fun v11 => cI (m_X6_decide 0 v11 v10 a2 M7) (fun v13 M12 => bK (nNe v13 1) none (rK M12 7901 (fun v14 => pK M12 7901 (oAdd v14 1) (fun M15 => cI (m_X2_partAt 0 0 M15) (fun v17 M16 => fK (oAdd v9 0) (fun v18 => cV (m_X3_giveMatch v17 v18 v10 M16) (fun M19 => rK M19 7901 (fun v20 => jn (fun (s21 : Nat) (M22 : Nat) => jn (fun (s23 : Nat) (M24 : Nat) => some (Nat.add s23 2, M24)) (fun (j197 : (Nat →  Nat → RN)) => bK (zGe s21) (cI (m_X8_settle v1 s21 M22) (fun v26 M25 => j197 v26 M25)) (j197 4294967294 M22))) (fun (j175 : (Nat →  Nat → RN)) => bK (nLe v20 60) (cI (m_X2_partAt 0 1 M19) (fun v28 M27 => cI (m_X8_rebuild 24 v28 M27) (fun v30 M29 => j175 v30 M29))) (j175 4294967294 M19)))))))))))))))))))))
set_option maxRecDepth 100000 in
theorem snd_X6_rewritten {l : Launch} {g : GV} {D : va_G} {sl q : Nat} {a1 a2 M0 : Nat} {r : Nat × Nat} (h : m_X6_rewritten a1 a2 M0 = some r) : SN l g D sl 39 0 q q 22 0 [(0, .inr (.inr (.inl 40))), (1, .inl a1), (2, .inl a2)] [] M0 (PR r) := by
  unfold m_X6_rewritten at h
  refine b_aln (pc' := 1) (a := .inr (.inr (.inl 40))) tb_X6_rewritten r_X6_rewritten_0 rfl rfl rfl ?_
  refine b_gr (pc' := 4) tb_X6_rewritten r_X6_rewritten_1 tF_40_7_0 rfl ?_
  obtain ⟨v1, cv1, h⟩ := rK_in h
  refine b_gi (pc' := 7) tb_X6_rewritten r_X6_rewritten_4 tF_11_9_2 cv1 rfl ?_
  refine b_stn (pc' := 8) [(3, .inl v1), (0, .inr (.inr (.inl 40))), (1, .inl a1), (2, .inl a2)] tb_X6_rewritten r_X6_rewritten_7 rfl rfl rfl rfl ?_
  refine b_ic (pc' := 9) (0) tb_X6_rewritten r_X6_rewritten_8 rfl rfl ?_
  refine b_st (pc' := 11) [(4, .inl 0), (3, .inl v1), (0, .inr (.inr (.inl 40))), (1, .inl a1), (2, .inl a2)] tb_X6_rewritten r_X6_rewritten_9 rfl rfl rfl rfl ?_
  refine b_il (pc' := 13) (a := .inl 0) tb_X6_rewritten r_X6_rewritten_11 rfl rfl rfl ?_
  refine b_aln (pc' := 14) (a := .inr (.inr (.inl 40))) tb_X6_rewritten r_X6_rewritten_13 rfl rfl rfl ?_
  refine b_gr (pc' := 17) tb_X6_rewritten r_X6_rewritten_14 tF_40_7_1 rfl ?_
  obtain ⟨v2, cv2, h⟩ := rK_in h
  refine b_gi (pc' := 20) tb_X6_rewritten r_X6_rewritten_17 tF_17_3_2 cv2 rfl ?_
  obtain ⟨c1, h⟩ := bK_f h
  refine b_icF (t := 228) (pc' := 23) tb_X6_rewritten r_X6_rewritten_20 rfl ((nGe_c _ _).symm.trans c1) rfl ?_
  refine b_aln (pc' := 24) (a := .inr (.inr (.inl 40))) tb_X6_rewritten r_X6_rewritten_23 rfl rfl rfl ?_
  refine b_gr (pc' := 27) tb_X6_rewritten r_X6_rewritten_24 tF_40_7_1 rfl ?_
  refine b_il (pc' := 29) (a := .inl 0) tb_X6_rewritten r_X6_rewritten_27 rfl rfl rfl ?_
  refine b_iln (pc' := 30) (a := .inl a1) tb_X6_rewritten r_X6_rewritten_29 rfl rfl rfl ?_
  obtain ⟨v4, M3, ov4, h⟩ := cI_in h
  refine b_vI (pc' := 33) tb_X6_rewritten r_X6_rewritten_30 tb_X2_canFit mo_X2_canFit (by decide) rfl rfl ov4 (fun r hr => snd_X2_canFit hr) (by decide) rfl rfl rfl ?_
  obtain ⟨c1, h⟩ := bK_f h
  refine b_ifF (t := 57) (pc' := 36) tb_X6_rewritten r_X6_rewritten_33 rfl ((zEq_c _).symm.trans c1) rfl ?_
  refine b_aln (pc' := 37) (a := .inr (.inr (.inl 40))) tb_X6_rewritten r_X6_rewritten_36 rfl rfl rfl ?_
  refine b_gr (pc' := 40) tb_X6_rewritten r_X6_rewritten_37 tF_40_7_2 rfl ?_
  refine b_aln (pc' := 41) (a := .inr (.inr (.inl 40))) tb_X6_rewritten r_X6_rewritten_40 rfl rfl rfl ?_
  refine b_gr (pc' := 44) tb_X6_rewritten r_X6_rewritten_41 tF_40_7_1 rfl ?_
  refine b_il (pc' := 46) (a := .inl 0) tb_X6_rewritten r_X6_rewritten_44 rfl rfl rfl ?_
  refine b_ic (pc' := 47) (0) tb_X6_rewritten r_X6_rewritten_46 rfl rfl ?_
  obtain ⟨v6, M5, ov6, h⟩ := cI_in h
  refine b_vI (pc' := 50) tb_X6_rewritten r_X6_rewritten_47 tb_X2_partAt mo_X2_partAt (by decide) rfl rfl ov6 (fun r hr => snd_X2_partAt hr) (by decide) rfl rfl rfl ?_
  refine b_iln (pc' := 51) (a := .inl a1) tb_X6_rewritten r_X6_rewritten_50 rfl rfl rfl ?_
  obtain ⟨v8, M7, ov8, h⟩ := cI_in h
  refine b_vI (pc' := 54) tb_X6_rewritten r_X6_rewritten_51 tb_X3_list mo_X3_list (by decide) rfl rfl ov8 (fun r hr => snd_X3_list hr) (by decide) rfl rfl rfl ?_
  refine b_goto (pc' := 58) tb_X6_rewritten r_X6_rewritten_54 rfl ?_
  refine b_st (pc' := 60) [(5, .inl v8), (4, .inl 0), (3, .inl v1), (0, .inr (.inr (.inl 40))), (1, .inl a1), (2, .inl a2)] tb_X6_rewritten r_X6_rewritten_58 rfl rfl rfl rfl ?_
  refine b_aln (pc' := 61) (a := .inr (.inr (.inl 40))) tb_X6_rewritten r_X6_rewritten_60 rfl rfl rfl ?_
  refine b_gr (pc' := 64) tb_X6_rewritten r_X6_rewritten_61 tF_40_7_2 rfl ?_
  obtain ⟨v9, cv9, h⟩ := rK_in h
  refine b_gi (pc' := 67) tb_X6_rewritten r_X6_rewritten_64 tF_19_4_13 cv9 rfl ?_
  refine b_st (pc' := 69) [(6, .inl v9), (5, .inl v8), (4, .inl 0), (3, .inl v1), (0, .inr (.inr (.inl 40))), (1, .inl a1), (2, .inl a2)] tb_X6_rewritten r_X6_rewritten_67 rfl rfl rfl rfl ?_
  refine b_aln (pc' := 70) (a := .inr (.inr (.inl 40))) tb_X6_rewritten r_X6_rewritten_69 rfl rfl rfl ?_
  refine b_gr (pc' := 73) tb_X6_rewritten r_X6_rewritten_70 tF_40_7_2 rfl ?_
  obtain ⟨v10, cv10, h⟩ := rK_in h
  refine b_gi (pc' := 76) tb_X6_rewritten r_X6_rewritten_73 tF_19_4_14 cv10 rfl ?_
  refine b_st (pc' := 78) [(7, .inl v10), (6, .inl v9), (5, .inl v8), (4, .inl 0), (3, .inl v1), (0, .inr (.inr (.inl 40))), (1, .inl a1), (2, .inl a2)] tb_X6_rewritten r_X6_rewritten_76 rfl rfl rfl rfl ?_
  refine b_ic (pc' := 79) (0) tb_X6_rewritten r_X6_rewritten_78 rfl rfl ?_
  refine b_st (pc' := 81) [(8, .inl 0), (7, .inl v10), (6, .inl v9), (5, .inl v8), (4, .inl 0), (3, .inl v1), (0, .inr (.inr (.inl 40))), (1, .inl a1), (2, .inl a2)] tb_X6_rewritten r_X6_rewritten_79 rfl rfl rfl rfl ?_
  refine b_il (pc' := 83) (a := .inl 0) tb_X6_rewritten r_X6_rewritten_81 rfl rfl rfl ?_
  refine b_il (pc' := 85) (a := .inl v8) tb_X6_rewritten r_X6_rewritten_83 rfl rfl rfl ?_
  obtain ⟨c1, h⟩ := bK_f h
  refine b_icF (t := 214) (pc' := 88) tb_X6_rewritten r_X6_rewritten_85 rfl ((nGe_c _ _).symm.trans c1) rfl ?_
  refine b_aln (pc' := 89) (a := .inr (.inr (.inl 40))) tb_X6_rewritten r_X6_rewritten_88 rfl rfl rfl ?_
  refine b_il (pc' := 91) (a := .inl 0) tb_X6_rewritten r_X6_rewritten_89 rfl rfl rfl ?_
  refine b_il (pc' := 93) (a := .inl v9) tb_X6_rewritten r_X6_rewritten_91 rfl rfl rfl ?_
  refine b_il (pc' := 95) (a := .inl 0) tb_X6_rewritten r_X6_rewritten_93 rfl rfl rfl ?_
  refine b_add (pc' := 96) tb_X6_rewritten r_X6_rewritten_95 rfl ?_
  refine b_il (pc' := 98) (a := .inl v10) tb_X6_rewritten r_X6_rewritten_96 rfl rfl rfl ?_
  refine b_iln (pc' := 99) (a := .inl a2) tb_X6_rewritten r_X6_rewritten_98 rfl rfl rfl ?_
  obtain ⟨v11, ev11, h⟩ := fK_v h
  rw [ev11]
  obtain ⟨v13, M12, ov13, h⟩ := cI_in h
  refine b_vI (pc' := 102) tb_X6_rewritten r_X6_rewritten_99 tb_X6_decide mo_X6_decide (by decide) rfl rfl ov13 (fun r hr => snd_X6_decide hr) (by decide) rfl rfl rfl ?_
  refine b_st (pc' := 104) [(9, .inl v13), (8, .inl 0), (7, .inl v10), (6, .inl v9), (5, .inl v8), (4, .inl 0), (3, .inl v1), (0, .inr (.inr (.inl 40))), (1, .inl a1), (2, .inl a2)] tb_X6_rewritten r_X6_rewritten_102 rfl rfl rfl rfl ?_
  refine b_il (pc' := 106) (a := .inl v13) tb_X6_rewritten r_X6_rewritten_104 rfl rfl rfl ?_
  refine b_ic (pc' := 107) (1) tb_X6_rewritten r_X6_rewritten_106 rfl rfl ?_
  obtain ⟨c1, h⟩ := bK_f h
  refine b_icF (t := 198) (pc' := 110) tb_X6_rewritten r_X6_rewritten_107 rfl ((nNe_c _ _).symm.trans c1) rfl ?_
  refine b_aln (pc' := 111) (a := .inr (.inr (.inl 40))) tb_X6_rewritten r_X6_rewritten_110 rfl rfl rfl ?_
  refine b_dup (pc' := 112) tb_X6_rewritten r_X6_rewritten_111 rfl rfl ?_
  obtain ⟨v14, cv14, h⟩ := rK_in h
  refine b_gi (pc' := 115) tb_X6_rewritten r_X6_rewritten_112 tF_40_7_3 cv14 rfl ?_
  refine b_ic (pc' := 116) (1) tb_X6_rewritten r_X6_rewritten_115 rfl rfl ?_
  refine b_add (pc' := 117) tb_X6_rewritten r_X6_rewritten_116 rfl ?_
  obtain ⟨M15, cM15, h⟩ := pK_in h
  refine b_pi (pc' := 120) tb_X6_rewritten r_X6_rewritten_117 rfl tF_40_7_3 cM15 rfl ?_
  refine b_aln (pc' := 121) (a := .inr (.inr (.inl 40))) tb_X6_rewritten r_X6_rewritten_120 rfl rfl rfl ?_
  refine b_gr (pc' := 124) tb_X6_rewritten r_X6_rewritten_121 tF_40_7_2 rfl ?_
  refine b_aln (pc' := 125) (a := .inr (.inr (.inl 40))) tb_X6_rewritten r_X6_rewritten_124 rfl rfl rfl ?_
  refine b_gr (pc' := 128) tb_X6_rewritten r_X6_rewritten_125 tF_40_7_1 rfl ?_
  refine b_il (pc' := 130) (a := .inl 0) tb_X6_rewritten r_X6_rewritten_128 rfl rfl rfl ?_
  refine b_ic (pc' := 131) (0) tb_X6_rewritten r_X6_rewritten_130 rfl rfl ?_
  obtain ⟨v17, M16, ov17, h⟩ := cI_in h
  refine b_vI (pc' := 134) tb_X6_rewritten r_X6_rewritten_131 tb_X2_partAt mo_X2_partAt (by decide) rfl rfl ov17 (fun r hr => snd_X2_partAt hr) (by decide) rfl rfl rfl ?_
  refine b_il (pc' := 136) (a := .inl v9) tb_X6_rewritten r_X6_rewritten_134 rfl rfl rfl ?_
  refine b_il (pc' := 138) (a := .inl 0) tb_X6_rewritten r_X6_rewritten_136 rfl rfl rfl ?_
  refine b_add (pc' := 139) tb_X6_rewritten r_X6_rewritten_138 rfl ?_
  refine b_il (pc' := 141) (a := .inl v10) tb_X6_rewritten r_X6_rewritten_139 rfl rfl rfl ?_
  obtain ⟨v18, ev18, h⟩ := fK_v h
  rw [ev18]
  obtain ⟨M19, oM19, h⟩ := cV_in h
  refine b_vV (pc' := 144) tb_X6_rewritten r_X6_rewritten_141 tb_X3_giveMatch mo_X3_giveMatch (by decide) rfl rfl oM19 (fun r hr => snd_X3_giveMatch hr) (by decide) rfl rfl rfl ?_
  refine b_aln (pc' := 145) (a := .inr (.inr (.inl 40))) tb_X6_rewritten r_X6_rewritten_144 rfl rfl rfl ?_
  obtain ⟨v20, cv20, h⟩ := rK_in h
  refine b_gi (pc' := 148) tb_X6_rewritten r_X6_rewritten_145 tF_40_7_3 cv20 rfl ?_
  refine b_bi (pc' := 150) (60) tb_X6_rewritten r_X6_rewritten_148 rfl rfl rfl ?_
  refine jn_in (R := fun (j175 : (Nat → Nat → RN)) => ∀ (s21 M22 : Nat), j175 s21 M22 = some r → SN l g D sl 39 0 q q 22 175 [(0, .inr (.inr (.inl 40))), (3, .inl v1)] [.inl s21] M22 (PR r)) h (fun s21 M22 h => ?_) (fun j175 hj175 h => ?_)
  · skip
    refine b_st (pc' := 177) [(10, .inl s21), (0, .inr (.inr (.inl 40))), (3, .inl v1)] tb_X6_rewritten r_X6_rewritten_175 rfl rfl rfl rfl ?_
    refine b_il (pc' := 179) (a := .inl s21) tb_X6_rewritten r_X6_rewritten_177 rfl rfl rfl ?_
    refine jn_in (R := fun (j197 : (Nat → Nat → RN)) => ∀ (s23 M24 : Nat), j197 s23 M24 = some r → SN l g D sl 39 0 q q 22 197 [] [.inl s23] M24 (PR r)) h (fun s23 M24 h => ?_) (fun j197 hj197 h => ?_)
    · skip
      exact b_ri tb_X6_rewritten r_X6_rewritten_197 rfl (sj h).symm
    rcases bK_in h with ⟨c1, h⟩ | ⟨c1, h⟩
    · refine b_ifT (t := 187) tb_X6_rewritten r_X6_rewritten_179 rfl ((zGe_c _).symm.trans c1) ?_
      refine b_aln (pc' := 188) (a := .inr (.inr (.inl 40))) tb_X6_rewritten r_X6_rewritten_187 rfl rfl rfl ?_
      refine b_gr (pc' := 191) tb_X6_rewritten r_X6_rewritten_188 tF_40_7_0 rfl ?_
      refine b_iln (pc' := 192) (a := .inl v1) tb_X6_rewritten r_X6_rewritten_191 rfl rfl rfl ?_
      refine b_il (pc' := 194) (a := .inl s21) tb_X6_rewritten r_X6_rewritten_192 rfl rfl rfl ?_
      obtain ⟨v26, M25, ov26, h⟩ := cI_in h
      refine b_vI (pc' := 197) tb_X6_rewritten r_X6_rewritten_194 tb_X8_settle mo_X8_settle (by decide) rfl rfl ov26 (fun r hr => snd_X8_settle hr) (by decide) rfl rfl rfl ?_
      refine b_sub9 [] trivial ?_
      exact hj197 _ _ h
    · refine b_ifF (t := 187) (pc' := 182) tb_X6_rewritten r_X6_rewritten_179 rfl ((zGe_c _).symm.trans c1) rfl ?_
      refine b_bi (pc' := 184) (4294967294) tb_X6_rewritten r_X6_rewritten_182 rfl rfl rfl ?_
      refine b_goto (pc' := 197) tb_X6_rewritten r_X6_rewritten_184 rfl ?_
      refine b_sub9 [] trivial ?_
      exact hj197 _ _ h
  rcases bK_in h with ⟨c1, h⟩ | ⟨c1, h⟩
  · refine b_icT (t := 158) tb_X6_rewritten r_X6_rewritten_150 rfl ((nLe_c _ _).symm.trans c1) ?_
    refine b_aln (pc' := 159) (a := .inr (.inr (.inl 40))) tb_X6_rewritten r_X6_rewritten_158 rfl rfl rfl ?_
    refine b_gr (pc' := 162) tb_X6_rewritten r_X6_rewritten_159 tF_40_7_0 rfl ?_
    refine b_aln (pc' := 163) (a := .inr (.inr (.inl 40))) tb_X6_rewritten r_X6_rewritten_162 rfl rfl rfl ?_
    refine b_gr (pc' := 166) tb_X6_rewritten r_X6_rewritten_163 tF_40_7_1 rfl ?_
    refine b_il (pc' := 168) (a := .inl 0) tb_X6_rewritten r_X6_rewritten_166 rfl rfl rfl ?_
    refine b_ic (pc' := 169) (1) tb_X6_rewritten r_X6_rewritten_168 rfl rfl ?_
    obtain ⟨v28, M27, ov28, h⟩ := cI_in h
    refine b_vI (pc' := 172) tb_X6_rewritten r_X6_rewritten_169 tb_X2_partAt mo_X2_partAt (by decide) rfl rfl ov28 (fun r hr => snd_X2_partAt hr) (by decide) rfl rfl rfl ?_
    obtain ⟨v30, M29, ov30, h⟩ := cI_in h
    refine b_vI (pc' := 175) tb_X6_rewritten r_X6_rewritten_172 tb_X8_rebuild mo_X8_rebuild (by decide) rfl rfl ov30 (fun r hr => snd_X8_rebuild _ hr) (by decide) rfl rfl rfl ?_
    refine b_sub9 [(0, .inr (.inr (.inl 40))), (3, .inl v1)] ⟨rfl, rfl, trivial⟩ ?_
    exact hj175 _ _ h
  · refine b_icF (t := 158) (pc' := 153) tb_X6_rewritten r_X6_rewritten_150 rfl ((nLe_c _ _).symm.trans c1) rfl ?_
    refine b_bi (pc' := 155) (4294967294) tb_X6_rewritten r_X6_rewritten_153 rfl rfl rfl ?_
    refine b_goto (pc' := 175) tb_X6_rewritten r_X6_rewritten_155 rfl ?_
    refine b_sub9 [(0, .inr (.inr (.inl 40))), (3, .inl v1)] ⟨rfl, rfl, trivial⟩ ?_
    exact hj175 _ _ h
noncomputable def m_X6_finish (a1 a2 a3 : Nat) (M0 : Nat) : RN :=
  lK M0 1165 1141 a1 (fun v1 => lK2 M0 5731 660 7500 8932 v1 (fun v2 => bK (nGe v2 32) (cI (m_X10_operatorIn v2 M0) (fun v35 M34 => lK M34 2306 1141 a1 (fun v36 => cI (m_X8_putOn v35 v36 M34) (fun v38 M37 => bK (zGe v38) (lK2 M37 5731 660 7500 8932 v38 (fun v52 => bK (nGe v52 32) (cI (m_X6_rewritten v38 a3 M37) (fun v60 M59 => bK (nNe v60 4294967294) (bK (nEq v60 4294967295) none (lK M59 24 1141 a1 (fun v61 => cI (m_X8_settle v61 v60 M59) (fun v63 M62 => cV (m_X6_look a1 v63 M62) (fun M64 => some (Nat.add 4294967295 2, M64)))))) (some (Nat.add 4294967294 2, M59)))) none)) none)))) none))
set_option maxRecDepth 100000 in
theorem snd_X6_finish {l : Launch} {g : GV} {D : va_G} {sl q : Nat} {a1 a2 a3 M0 : Nat} {r : Nat × Nat} (h : m_X6_finish a1 a2 a3 M0 = some r) : SN l g D sl 40 0 q q 27 0 [(0, .inr (.inr (.inl 40))), (1, .inl a1), (2, .inl a2), (3, .inl a3)] [] M0 (PR r) := by
  unfold m_X6_finish at h
  refine b_aln (pc' := 1) (a := .inr (.inr (.inl 40))) tb_X6_finish r_X6_finish_0 rfl rfl rfl ?_
  refine b_gr (pc' := 4) tb_X6_finish r_X6_finish_1 tF_40_7_5 rfl ?_
  refine b_iln (pc' := 5) (a := .inl a1) tb_X6_finish r_X6_finish_4 rfl rfl rfl ?_
  obtain ⟨v1, dv1, cv1, h⟩ := lK_in h
  refine b_ia (pc' := 6) tb_X6_finish r_X6_finish_5 tA_41 dv1 cv1 rfl ?_
  refine b_st (pc' := 8) [(4, .inl v1), (0, .inr (.inr (.inl 40))), (1, .inl a1), (2, .inl a2), (3, .inl a3)] tb_X6_finish r_X6_finish_6 rfl rfl rfl rfl ?_
  refine b_aln (pc' := 9) (a := .inr (.inr (.inl 40))) tb_X6_finish r_X6_finish_8 rfl rfl rfl ?_
  refine b_gr (pc' := 12) tb_X6_finish r_X6_finish_9 tF_40_7_0 rfl ?_
  refine b_gr (pc' := 15) tb_X6_finish r_X6_finish_12 tF_11_9_1 rfl ?_
  refine b_il (pc' := 17) (a := .inl v1) tb_X6_finish r_X6_finish_15 rfl rfl rfl ?_
  obtain ⟨v2, _, dv2, cv2, h⟩ := lK2_in h
  refine b_ia2 (pc' := 18) tb_X6_finish r_X6_finish_17 tA_12 dv2 cv2 rfl ?_
  refine b_st (pc' := 20) [(5, .inl v2), (4, .inl v1), (0, .inr (.inr (.inl 40))), (1, .inl a1), (2, .inl a2), (3, .inl a3)] tb_X6_finish r_X6_finish_18 rfl rfl rfl rfl ?_
  refine b_il (pc' := 22) (a := .inl v2) tb_X6_finish r_X6_finish_20 rfl rfl rfl ?_
  refine b_bi (pc' := 24) (32) tb_X6_finish r_X6_finish_22 rfl rfl rfl ?_
  obtain ⟨c1, h⟩ := bK_t h
  refine b_icT (t := 32) tb_X6_finish r_X6_finish_24 rfl ((nGe_c _ _).symm.trans c1) ?_
  refine b_aln (pc' := 33) (a := .inr (.inr (.inl 40))) tb_X6_finish r_X6_finish_32 rfl rfl rfl ?_
  refine b_gr (pc' := 36) tb_X6_finish r_X6_finish_33 tF_40_7_0 rfl ?_
  refine b_il (pc' := 38) (a := .inl v2) tb_X6_finish r_X6_finish_36 rfl rfl rfl ?_
  obtain ⟨v35, M34, ov35, h⟩ := cI_in h
  refine b_sI (pc' := 41) tb_X6_finish r_X6_finish_38 tb_X10_operatorIn mo_X10_operatorIn (by decide) rfl rfl ov35 (fun r hr => snd_X10_operatorIn hr) (by decide) rfl rfl rfl ?_
  refine b_aln (pc' := 42) (a := .inr (.inr (.inl 40))) tb_X6_finish r_X6_finish_41 rfl rfl rfl ?_
  refine b_gr (pc' := 45) tb_X6_finish r_X6_finish_42 tF_40_7_9 rfl ?_
  refine b_iln (pc' := 46) (a := .inl a1) tb_X6_finish r_X6_finish_45 rfl rfl rfl ?_
  obtain ⟨v36, dv36, cv36, h⟩ := lK_in h
  refine b_ia (pc' := 47) tb_X6_finish r_X6_finish_46 tA_45 dv36 cv36 rfl ?_
  obtain ⟨v38, M37, ov38, h⟩ := cI_in h
  refine b_vI (pc' := 50) tb_X6_finish r_X6_finish_47 tb_X8_putOn mo_X8_putOn (by decide) rfl rfl ov38 (fun r hr => snd_X8_putOn hr) (by decide) rfl rfl rfl ?_
  refine b_st (pc' := 52) [(6, .inl v38), (5, .inl v2), (4, .inl v1), (0, .inr (.inr (.inl 40))), (1, .inl a1), (2, .inl a2), (3, .inl a3)] tb_X6_finish r_X6_finish_50 rfl rfl rfl rfl ?_
  refine b_il (pc' := 54) (a := .inl v38) tb_X6_finish r_X6_finish_52 rfl rfl rfl ?_
  obtain ⟨c1, h⟩ := bK_t h
  refine b_ifT (t := 60) tb_X6_finish r_X6_finish_54 rfl ((zGe_c _).symm.trans c1) ?_
  refine b_aln (pc' := 61) (a := .inr (.inr (.inl 40))) tb_X6_finish r_X6_finish_60 rfl rfl rfl ?_
  refine b_gr (pc' := 64) tb_X6_finish r_X6_finish_61 tF_40_7_0 rfl ?_
  refine b_gr (pc' := 67) tb_X6_finish r_X6_finish_64 tF_11_9_1 rfl ?_
  refine b_il (pc' := 69) (a := .inl v38) tb_X6_finish r_X6_finish_67 rfl rfl rfl ?_
  obtain ⟨v52, _, dv52, cv52, h⟩ := lK2_in h
  refine b_ia2 (pc' := 70) tb_X6_finish r_X6_finish_69 tA_12 dv52 cv52 rfl ?_
  refine b_bi (pc' := 72) (32) tb_X6_finish r_X6_finish_70 rfl rfl rfl ?_
  obtain ⟨c1, h⟩ := bK_t h
  refine b_icT (t := 79) tb_X6_finish r_X6_finish_72 rfl ((nGe_c _ _).symm.trans c1) ?_
  refine b_aln (pc' := 80) (a := .inr (.inr (.inl 40))) tb_X6_finish r_X6_finish_79 rfl rfl rfl ?_
  refine b_il (pc' := 82) (a := .inl v38) tb_X6_finish r_X6_finish_80 rfl rfl rfl ?_
  refine b_iln (pc' := 83) (a := .inl a3) tb_X6_finish r_X6_finish_82 rfl rfl rfl ?_
  obtain ⟨v60, M59, ov60, h⟩ := cI_in h
  refine b_vI (pc' := 86) tb_X6_finish r_X6_finish_83 tb_X6_rewritten mo_X6_rewritten (by decide) rfl rfl ov60 (fun r hr => snd_X6_rewritten hr) (by decide) rfl rfl rfl ?_
  refine b_st (pc' := 88) [(7, .inl v60), (6, .inl v38), (5, .inl v2), (4, .inl v1), (0, .inr (.inr (.inl 40))), (1, .inl a1), (2, .inl a2), (3, .inl a3)] tb_X6_finish r_X6_finish_86 rfl rfl rfl rfl ?_
  refine b_il (pc' := 90) (a := .inl v60) tb_X6_finish r_X6_finish_88 rfl rfl rfl ?_
  refine b_bi (pc' := 92) (4294967294) tb_X6_finish r_X6_finish_90 rfl rfl rfl ?_
  rcases bK_in h with ⟨c1, h⟩ | ⟨c1, h⟩
  · refine b_icT (t := 98) tb_X6_finish r_X6_finish_92 rfl ((nNe_c _ _).symm.trans c1) ?_
    refine b_il (pc' := 100) (a := .inl v60) tb_X6_finish r_X6_finish_98 rfl rfl rfl ?_
    refine b_ic (pc' := 101) (4294967295) tb_X6_finish r_X6_finish_100 rfl rfl ?_
    obtain ⟨c1, h⟩ := bK_f h
    refine b_icF (t := 126) (pc' := 104) tb_X6_finish r_X6_finish_101 rfl ((nEq_c _ _).symm.trans c1) rfl ?_
    refine b_aln (pc' := 105) (a := .inr (.inr (.inl 40))) tb_X6_finish r_X6_finish_104 rfl rfl rfl ?_
    refine b_iln (pc' := 106) (a := .inl a1) tb_X6_finish r_X6_finish_105 rfl rfl rfl ?_
    refine b_aln (pc' := 107) (a := .inr (.inr (.inl 40))) tb_X6_finish r_X6_finish_106 rfl rfl rfl ?_
    refine b_gr (pc' := 110) tb_X6_finish r_X6_finish_107 tF_40_7_0 rfl ?_
    refine b_aln (pc' := 111) (a := .inr (.inr (.inl 40))) tb_X6_finish r_X6_finish_110 rfl rfl rfl ?_
    refine b_gr (pc' := 114) tb_X6_finish r_X6_finish_111 tF_40_7_6 rfl ?_
    refine b_iln (pc' := 115) (a := .inl a1) tb_X6_finish r_X6_finish_114 rfl rfl rfl ?_
    obtain ⟨v61, dv61, cv61, h⟩ := lK_in h
    refine b_ia (pc' := 116) tb_X6_finish r_X6_finish_115 tA_42 dv61 cv61 rfl ?_
    refine b_il (pc' := 118) (a := .inl v60) tb_X6_finish r_X6_finish_116 rfl rfl rfl ?_
    obtain ⟨v63, M62, ov63, h⟩ := cI_in h
    refine b_vI (pc' := 121) tb_X6_finish r_X6_finish_118 tb_X8_settle mo_X8_settle (by decide) rfl rfl ov63 (fun r hr => snd_X8_settle hr) (by decide) rfl rfl rfl ?_
    obtain ⟨M64, oM64, h⟩ := cV_in h
    refine b_vV (pc' := 124) tb_X6_finish r_X6_finish_121 tb_X6_look mo_X6_look (by decide) rfl rfl oM64 (fun r hr => snd_X6_look hr) (by decide) rfl rfl rfl ?_
    refine b_ic (pc' := 125) (4294967295) tb_X6_finish r_X6_finish_124 rfl rfl ?_
    exact b_ri tb_X6_finish r_X6_finish_125 rfl (sj h).symm
  · refine b_icF (t := 98) (pc' := 95) tb_X6_finish r_X6_finish_92 rfl ((nNe_c _ _).symm.trans c1) rfl ?_
    refine b_bi (pc' := 97) (4294967294) tb_X6_finish r_X6_finish_95 rfl rfl rfl ?_
    exact b_ri tb_X6_finish r_X6_finish_97 rfl (sj h).symm
noncomputable def m_X6_normalForm (a1 a2 : Nat) (M0 : Nat) : RN :=
  rK M0 7902 (fun v1 => cI (m_X6_begin a1 M0) (fun v3 M2 => lp (fun _ _ _ => none) (fun (j15 : (Nat → Nat →  Nat → RN)) => fun (x4 : Nat) (x5 : Nat) (M6 : Nat) => jn (fun (M7 : Nat) => pK M7 7902 v1 (fun M8 => bK (nNe x4 4294967295) (some (Nat.add x4 2, M8)) none)) (fun (j109 : ( Nat → RN)) => bK (nGe x5 1000000) (j109 M6) (bK (nNe x4 4294967295) (j109 M6) (rK M6 7902 (fun v9 => fK (oSub v9 1) (fun v10 => lK M6 4590 1141 v10 (fun v11 => jn (fun (x12 : Nat) (M13 : Nat) => fK (oAdd x5 1) (fun v14 => j15 x12 v14 M13)) (fun (j103 : (Nat →  Nat → RN)) => bK (zLe v11) (cI (m_X6_finish v10 v1 a2 M6) (fun v16 M15 => j103 v16 M15)) (lK M6 3449 1141 v10 (fun v17 => cI (m_X8_end v17 M6) (fun v19 M18 => sK M18 3449 1141 v10 v19 (fun M20 => lK M20 4590 1141 v10 (fun v21 => sK M20 4590 1141 v10 (oSub v21 1) (fun M22 => cI (m_X6_begin v17 M22) (fun v24 M23 => j103 v24 M23))))))))))))))) (fun (j15 : (Nat → Nat →  Nat → RN)) => j15 v3 0 M2)))
set_option maxRecDepth 100000 in
theorem snd_X6_normalForm {l : Launch} {g : GV} {D : va_G} {sl q : Nat} {a1 a2 M0 : Nat} {r : Nat × Nat} (h : m_X6_normalForm a1 a2 M0 = some r) : SN l g D sl 41 0 q q 6 0 [(0, .inr (.inr (.inl 40))), (1, .inl a1), (2, .inl a2)] [] M0 (PR r) := by
  unfold m_X6_normalForm at h
  refine b_aln (pc' := 1) (a := .inr (.inr (.inl 40))) tb_X6_normalForm r_X6_normalForm_0 rfl rfl rfl ?_
  obtain ⟨v1, cv1, h⟩ := rK_in h
  refine b_gi (pc' := 4) tb_X6_normalForm r_X6_normalForm_1 tF_40_7_4 cv1 rfl ?_
  refine b_stn (pc' := 5) [(3, .inl v1), (0, .inr (.inr (.inl 40))), (1, .inl a1), (2, .inl a2)] tb_X6_normalForm r_X6_normalForm_4 rfl rfl rfl rfl ?_
  refine b_aln (pc' := 6) (a := .inr (.inr (.inl 40))) tb_X6_normalForm r_X6_normalForm_5 rfl rfl rfl ?_
  refine b_iln (pc' := 7) (a := .inl a1) tb_X6_normalForm r_X6_normalForm_6 rfl rfl rfl ?_
  obtain ⟨v3, M2, ov3, h⟩ := cI_in h
  refine b_vI (pc' := 10) tb_X6_normalForm r_X6_normalForm_7 tb_X6_begin mo_X6_begin (by decide) rfl rfl ov3 (fun r hr => snd_X6_begin hr) (by decide) rfl rfl rfl ?_
  refine b_st (pc' := 12) [(4, .inl v3), (3, .inl v1), (0, .inr (.inr (.inl 40))), (1, .inl a1), (2, .inl a2)] tb_X6_normalForm r_X6_normalForm_10 rfl rfl rfl rfl ?_
  refine b_ic (pc' := 13) (0) tb_X6_normalForm r_X6_normalForm_12 rfl rfl ?_
  refine b_st (pc' := 15) [(5, .inl 0), (4, .inl v3), (3, .inl v1), (0, .inr (.inr (.inl 40))), (1, .inl a1), (2, .inl a2)] tb_X6_normalForm r_X6_normalForm_13 rfl rfl rfl rfl ?_
  refine lp_in (R := fun (j15 : (Nat → Nat → Nat → RN)) => ∀ (x4 x5 M6 : Nat), j15 x4 x5 M6 = some r → SN l g D sl 41 0 q q 6 15 [(0, .inr (.inr (.inl 40))), (2, .inl a2), (3, .inl v1), (4, .inl x4), (5, .inl x5)] [] M6 (PR r)) h (fun _ _ _ h => by cases h) (fun j15 hj15 => ?_) (fun j15 hj15 h => ?_)
  · intro x4 x5 M6 h
    refine b_il (pc' := 17) (a := .inl x5) tb_X6_normalForm r_X6_normalForm_15 rfl rfl rfl ?_
    refine b_ldc (pc' := 19) tb_X6_normalForm r_X6_normalForm_17 rfl ?_
    refine jn_in (R := fun (j109 : ( Nat → RN)) => ∀ (M7 : Nat), j109 M7 = some r → SN l g D sl 41 0 q q 6 109 [(0, .inr (.inr (.inl 40))), (3, .inl v1), (4, .inl x4)] [] M7 (PR r)) h (fun M7 h => ?_) (fun j109 hj109 h => ?_)
    · skip
      refine b_aln (pc' := 110) (a := .inr (.inr (.inl 40))) tb_X6_normalForm r_X6_normalForm_109 rfl rfl rfl ?_
      refine b_iln (pc' := 111) (a := .inl v1) tb_X6_normalForm r_X6_normalForm_110 rfl rfl rfl ?_
      obtain ⟨M8, cM8, h⟩ := pK_in h
      refine b_pi (pc' := 114) tb_X6_normalForm r_X6_normalForm_111 rfl tF_40_7_4 cM8 rfl ?_
      refine b_il (pc' := 116) (a := .inl x4) tb_X6_normalForm r_X6_normalForm_114 rfl rfl rfl ?_
      refine b_ic (pc' := 117) (4294967295) tb_X6_normalForm r_X6_normalForm_116 rfl rfl ?_
      obtain ⟨c1, h⟩ := bK_t h
      refine b_icT (t := 125) tb_X6_normalForm r_X6_normalForm_117 rfl ((nNe_c _ _).symm.trans c1) ?_
      refine b_il (pc' := 127) (a := .inl x4) tb_X6_normalForm r_X6_normalForm_125 rfl rfl rfl ?_
      exact b_ri tb_X6_normalForm r_X6_normalForm_127 rfl (sj h).symm
    rcases bK_in h with ⟨c1, h⟩ | ⟨c1, h⟩
    · refine b_icT (t := 109) tb_X6_normalForm r_X6_normalForm_19 rfl ((nGe_c _ _).symm.trans c1) ?_
      refine b_sub9 [(0, .inr (.inr (.inl 40))), (3, .inl v1), (4, .inl x4)] ⟨rfl, rfl, rfl, trivial⟩ ?_
      exact hj109 _ h
    · refine b_icF (t := 109) (pc' := 22) tb_X6_normalForm r_X6_normalForm_19 rfl ((nGe_c _ _).symm.trans c1) rfl ?_
      refine b_il (pc' := 24) (a := .inl x4) tb_X6_normalForm r_X6_normalForm_22 rfl rfl rfl ?_
      refine b_ic (pc' := 25) (4294967295) tb_X6_normalForm r_X6_normalForm_24 rfl rfl ?_
      rcases bK_in h with ⟨c1, h⟩ | ⟨c1, h⟩
      · refine b_icT (t := 109) tb_X6_normalForm r_X6_normalForm_25 rfl ((nNe_c _ _).symm.trans c1) ?_
        refine b_sub9 [(0, .inr (.inr (.inl 40))), (3, .inl v1), (4, .inl x4)] ⟨rfl, rfl, rfl, trivial⟩ ?_
        exact hj109 _ h
      · refine b_icF (t := 109) (pc' := 28) tb_X6_normalForm r_X6_normalForm_25 rfl ((nNe_c _ _).symm.trans c1) rfl ?_
        refine b_aln (pc' := 29) (a := .inr (.inr (.inl 40))) tb_X6_normalForm r_X6_normalForm_28 rfl rfl rfl ?_
        obtain ⟨v9, cv9, h⟩ := rK_in h
        refine b_gi (pc' := 32) tb_X6_normalForm r_X6_normalForm_29 tF_40_7_4 cv9 rfl ?_
        refine b_ic (pc' := 33) (1) tb_X6_normalForm r_X6_normalForm_32 rfl rfl ?_
        refine b_sub (pc' := 34) tb_X6_normalForm r_X6_normalForm_33 rfl ?_
        obtain ⟨v10, ev10, h⟩ := fK_v h
        rw [ev10]
        refine b_st (pc' := 36) [(6, .inl v10), (0, .inr (.inr (.inl 40))), (2, .inl a2), (3, .inl v1), (4, .inl x4), (5, .inl x5)] tb_X6_normalForm r_X6_normalForm_34 rfl rfl rfl rfl ?_
        refine b_aln (pc' := 37) (a := .inr (.inr (.inl 40))) tb_X6_normalForm r_X6_normalForm_36 rfl rfl rfl ?_
        refine b_gr (pc' := 40) tb_X6_normalForm r_X6_normalForm_37 tF_40_7_8 rfl ?_
        refine b_il (pc' := 42) (a := .inl v10) tb_X6_normalForm r_X6_normalForm_40 rfl rfl rfl ?_
        obtain ⟨v11, dv11, cv11, h⟩ := lK_in h
        refine b_ia (pc' := 43) tb_X6_normalForm r_X6_normalForm_42 tA_44 dv11 cv11 rfl ?_
        refine jn_in (R := fun (j103 : (Nat → Nat → RN)) => ∀ (x12 M13 : Nat), j103 x12 M13 = some r → SN l g D sl 41 0 q q 6 103 [(0, .inr (.inr (.inl 40))), (2, .inl a2), (3, .inl v1), (4, .inl x12), (5, .inl x5)] [] M13 (PR r)) h (fun x12 M13 h => ?_) (fun j103 hj103 h => ?_)
        · skip
          refine b_inc (pc' := 106) (v := x5) (n := 1) [(5, .inl (oAdd x5 1)), (0, .inr (.inr (.inl 40))), (2, .inl a2), (3, .inl v1), (4, .inl x12)] tb_X6_normalForm r_X6_normalForm_103 rfl rfl rfl rfl rfl ?_
          obtain ⟨v14, ev14, h⟩ := fK_v h
          rw [ev14]
          refine b_goto (pc' := 15) tb_X6_normalForm r_X6_normalForm_106 rfl ?_
          refine b_sub9 [(0, .inr (.inr (.inl 40))), (2, .inl a2), (3, .inl v1), (4, .inl x12), (5, .inl v14)] ⟨rfl, rfl, rfl, rfl, rfl, trivial⟩ ?_
          exact hj15 _ _ _ h
        rcases bK_in h with ⟨c1, h⟩ | ⟨c1, h⟩
        · refine b_ifT (t := 93) tb_X6_normalForm r_X6_normalForm_43 rfl ((zLe_c _).symm.trans c1) ?_
          refine b_aln (pc' := 94) (a := .inr (.inr (.inl 40))) tb_X6_normalForm r_X6_normalForm_93 rfl rfl rfl ?_
          refine b_il (pc' := 96) (a := .inl v10) tb_X6_normalForm r_X6_normalForm_94 rfl rfl rfl ?_
          refine b_iln (pc' := 97) (a := .inl v1) tb_X6_normalForm r_X6_normalForm_96 rfl rfl rfl ?_
          refine b_iln (pc' := 98) (a := .inl a2) tb_X6_normalForm r_X6_normalForm_97 rfl rfl rfl ?_
          obtain ⟨v16, M15, ov16, h⟩ := cI_in h
          refine b_vI (pc' := 101) tb_X6_normalForm r_X6_normalForm_98 tb_X6_finish mo_X6_finish (by decide) rfl rfl ov16 (fun r hr => snd_X6_finish hr) (by decide) rfl rfl rfl ?_
          refine b_st (pc' := 103) [(4, .inl v16), (6, .inl v10), (0, .inr (.inr (.inl 40))), (2, .inl a2), (3, .inl v1), (5, .inl x5)] tb_X6_normalForm r_X6_normalForm_101 rfl rfl rfl rfl ?_
          refine b_sub9 [(0, .inr (.inr (.inl 40))), (2, .inl a2), (3, .inl v1), (4, .inl v16), (5, .inl x5)] ⟨rfl, rfl, rfl, rfl, rfl, trivial⟩ ?_
          exact hj103 _ _ h
        · refine b_ifF (t := 93) (pc' := 46) tb_X6_normalForm r_X6_normalForm_43 rfl ((zLe_c _).symm.trans c1) rfl ?_
          refine b_aln (pc' := 47) (a := .inr (.inr (.inl 40))) tb_X6_normalForm r_X6_normalForm_46 rfl rfl rfl ?_
          refine b_gr (pc' := 50) tb_X6_normalForm r_X6_normalForm_47 tF_40_7_7 rfl ?_
          refine b_il (pc' := 52) (a := .inl v10) tb_X6_normalForm r_X6_normalForm_50 rfl rfl rfl ?_
          obtain ⟨v17, dv17, cv17, h⟩ := lK_in h
          refine b_ia (pc' := 53) tb_X6_normalForm r_X6_normalForm_52 tA_43 dv17 cv17 rfl ?_
          refine b_st (pc' := 55) [(7, .inl v17), (6, .inl v10), (0, .inr (.inr (.inl 40))), (2, .inl a2), (3, .inl v1), (4, .inl x4), (5, .inl x5)] tb_X6_normalForm r_X6_normalForm_53 rfl rfl rfl rfl ?_
          refine b_aln (pc' := 56) (a := .inr (.inr (.inl 40))) tb_X6_normalForm r_X6_normalForm_55 rfl rfl rfl ?_
          refine b_gr (pc' := 59) tb_X6_normalForm r_X6_normalForm_56 tF_40_7_7 rfl ?_
          refine b_il (pc' := 61) (a := .inl v10) tb_X6_normalForm r_X6_normalForm_59 rfl rfl rfl ?_
          refine b_aln (pc' := 62) (a := .inr (.inr (.inl 40))) tb_X6_normalForm r_X6_normalForm_61 rfl rfl rfl ?_
          refine b_gr (pc' := 65) tb_X6_normalForm r_X6_normalForm_62 tF_40_7_0 rfl ?_
          refine b_il (pc' := 67) (a := .inl v17) tb_X6_normalForm r_X6_normalForm_65 rfl rfl rfl ?_
          obtain ⟨v19, M18, ov19, h⟩ := cI_in h
          refine b_vI (pc' := 70) tb_X6_normalForm r_X6_normalForm_67 tb_X8_end mo_X8_end (by decide) rfl rfl ov19 (fun r hr => snd_X8_end hr) (by decide) rfl rfl rfl ?_
          obtain ⟨M20, dM20, cM20, h⟩ := sK_in h
          refine b_is (pc' := 71) tb_X6_normalForm r_X6_normalForm_70 tA_43 dM20 cM20 rfl ?_
          refine b_aln (pc' := 72) (a := .inr (.inr (.inl 40))) tb_X6_normalForm r_X6_normalForm_71 rfl rfl rfl ?_
          refine b_gr (pc' := 75) tb_X6_normalForm r_X6_normalForm_72 tF_40_7_8 rfl ?_
          refine b_il (pc' := 77) (a := .inl v10) tb_X6_normalForm r_X6_normalForm_75 rfl rfl rfl ?_
          refine b_dup2 (pc' := 78) tb_X6_normalForm r_X6_normalForm_77 rfl rfl ?_
          obtain ⟨v21, dv21, cv21, h⟩ := lK_in h
          refine b_ia (pc' := 79) tb_X6_normalForm r_X6_normalForm_78 tA_44 dv21 cv21 rfl ?_
          refine b_ic (pc' := 80) (1) tb_X6_normalForm r_X6_normalForm_79 rfl rfl ?_
          refine b_sub (pc' := 81) tb_X6_normalForm r_X6_normalForm_80 rfl ?_
          obtain ⟨M22, dM22, cM22, h⟩ := sK_in h
          refine b_is (pc' := 82) tb_X6_normalForm r_X6_normalForm_81 tA_44 dM22 cM22 rfl ?_
          refine b_aln (pc' := 83) (a := .inr (.inr (.inl 40))) tb_X6_normalForm r_X6_normalForm_82 rfl rfl rfl ?_
          refine b_il (pc' := 85) (a := .inl v17) tb_X6_normalForm r_X6_normalForm_83 rfl rfl rfl ?_
          obtain ⟨v24, M23, ov24, h⟩ := cI_in h
          refine b_vI (pc' := 88) tb_X6_normalForm r_X6_normalForm_85 tb_X6_begin mo_X6_begin (by decide) rfl rfl ov24 (fun r hr => snd_X6_begin hr) (by decide) rfl rfl rfl ?_
          refine b_st (pc' := 90) [(4, .inl v24), (7, .inl v17), (6, .inl v10), (0, .inr (.inr (.inl 40))), (2, .inl a2), (3, .inl v1), (5, .inl x5)] tb_X6_normalForm r_X6_normalForm_88 rfl rfl rfl rfl ?_
          refine b_goto (pc' := 103) tb_X6_normalForm r_X6_normalForm_90 rfl ?_
          refine b_sub9 [(0, .inr (.inr (.inl 40))), (2, .inl a2), (3, .inl v1), (4, .inl v24), (5, .inl x5)] ⟨rfl, rfl, rfl, rfl, rfl, trivial⟩ ?_
          exact hj103 _ _ h
  refine b_sub9 [(0, .inr (.inr (.inl 40))), (2, .inl a2), (3, .inl v1), (4, .inl v3), (5, .inl 0)] ⟨rfl, rfl, rfl, rfl, rfl, trivial⟩ ?_
  exact hj15 _ _ _ h
noncomputable def m_X10_reduce (M0 : Nat) : RN :=
  rK M0 3447 (fun v1 => bK (zNe v1) (cV (m_X8_startAnew M0) (fun M8 => pK M8 7901 0 (fun M9 => cI (m_X10_topAt M9) (fun v11 M10 => cI (m_X6_normalForm v11 0 M10) (fun v13 M12 => bK (zGe v13) none (some (Nat.add 4294967294 2, M12))))))) none)
set_option maxRecDepth 100000 in
theorem snd_X10_reduce {l : Launch} {g : GV} {D : va_G} {sl q : Nat} {M0 : Nat} {r : Nat × Nat} (h : m_X10_reduce M0 = some r) : SN l g D sl 42 0 q q 94 0 [(0, .inr (.inr (.inl 0)))] [] M0 (PR r) := by
  unfold m_X10_reduce at h
  refine b_aln (pc' := 1) (a := .inr (.inr (.inl 0))) tb_X10_reduce r_X10_reduce_0 rfl rfl rfl ?_
  obtain ⟨v1, cv1, h⟩ := rK_in h
  refine b_gi (pc' := 4) tb_X10_reduce r_X10_reduce_1 tF_0_11_8 cv1 rfl ?_
  obtain ⟨c1, h⟩ := bK_t h
  refine b_ifT (t := 17) tb_X10_reduce r_X10_reduce_4 rfl ((zNe_c _).symm.trans c1) ?_
  refine b_aln (pc' := 18) (a := .inr (.inr (.inl 0))) tb_X10_reduce r_X10_reduce_17 rfl rfl rfl ?_
  refine b_gr (pc' := 21) tb_X10_reduce r_X10_reduce_18 tF_0_11_1 rfl ?_
  obtain ⟨M8, oM8, h⟩ := cV_in h
  refine b_vV (pc' := 24) tb_X10_reduce r_X10_reduce_21 tb_X8_startAnew mo_X8_startAnew (by decide) rfl rfl oM8 (fun r hr => snd_X8_startAnew hr) (by decide) rfl rfl rfl ?_
  refine b_aln (pc' := 25) (a := .inr (.inr (.inl 0))) tb_X10_reduce r_X10_reduce_24 rfl rfl rfl ?_
  refine b_gr (pc' := 28) tb_X10_reduce r_X10_reduce_25 tF_0_11_4 rfl ?_
  refine b_ic (pc' := 29) (0) tb_X10_reduce r_X10_reduce_28 rfl rfl ?_
  obtain ⟨M9, cM9, h⟩ := pK_in h
  refine b_pi (pc' := 32) tb_X10_reduce r_X10_reduce_29 rfl tF_40_7_3 cM9 rfl ?_
  refine b_aln (pc' := 33) (a := .inr (.inr (.inl 0))) tb_X10_reduce r_X10_reduce_32 rfl rfl rfl ?_
  refine b_gr (pc' := 36) tb_X10_reduce r_X10_reduce_33 tF_0_11_4 rfl ?_
  refine b_aln (pc' := 37) (a := .inr (.inr (.inl 0))) tb_X10_reduce r_X10_reduce_36 rfl rfl rfl ?_
  obtain ⟨v11, M10, ov11, h⟩ := cI_in h
  refine b_vI (pc' := 40) tb_X10_reduce r_X10_reduce_37 tb_X10_topAt mo_X10_topAt (by decide) rfl rfl ov11 (fun r hr => snd_X10_topAt hr) (by decide) rfl rfl rfl ?_
  refine b_ic (pc' := 41) (0) tb_X10_reduce r_X10_reduce_40 rfl rfl ?_
  obtain ⟨v13, M12, ov13, h⟩ := cI_in h
  refine b_vI (pc' := 44) tb_X10_reduce r_X10_reduce_41 tb_X6_normalForm mo_X6_normalForm (by decide) rfl rfl ov13 (fun r hr => snd_X6_normalForm hr) (by decide) rfl rfl rfl ?_
  refine b_stn (pc' := 45) [(1, .inl v13), (0, .inr (.inr (.inl 0)))] tb_X10_reduce r_X10_reduce_44 rfl rfl rfl rfl ?_
  refine b_iln (pc' := 46) (a := .inl v13) tb_X10_reduce r_X10_reduce_45 rfl rfl rfl ?_
  obtain ⟨c1, h⟩ := bK_f h
  refine b_ifF (t := 52) (pc' := 49) tb_X10_reduce r_X10_reduce_46 rfl ((zGe_c _).symm.trans c1) rfl ?_
  refine b_bi (pc' := 51) (4294967294) tb_X10_reduce r_X10_reduce_49 rfl rfl rfl ?_
  exact b_ri tb_X10_reduce r_X10_reduce_51 rfl (sj h).symm
