/-! the small methods of the law -/
theorem tA_61 : tabA LT 61 0 3 2171 3 3 3 = true := by decide +kernel
noncomputable def m_L_number (a1 : Nat) (M0 : Nat) : RN :=
  cI (m_X10_apply 0 M0) (fun v2 M1 => lp (fun _ _ => none) (fun (j8 : (Nat →  Nat → RN)) => fun (x3 : Nat) (M4 : Nat) => bK (nGe x3 a1) (some (1, M4)) (cI (m_X10_apply 1 M4) (fun v6 M5 => fK (oAdd x3 1) (fun v7 => j8 v7 M5)))) (fun (j8 : (Nat →  Nat → RN)) => j8 0 M1))
set_option maxRecDepth 100000 in
theorem snd_L_number {l : Launch} {g : GV} {D : va_G} {sl q : Nat} {a1 M0 : Nat} {r : Nat × Nat} (h : m_L_number a1 M0 = some r) : SN l g D sl 5 0 q q 91 0 [(0, .inr (.inr (.inl 0))), (1, .inl a1)] [] M0 (PR r) := by
  unfold m_L_number at h
  refine b_aln (pc' := 1) (a := .inr (.inr (.inl 0))) tb_L_number r_L_number_0 rfl rfl rfl ?_
  refine b_ic (pc' := 2) (0) tb_L_number r_L_number_1 rfl rfl ?_
  obtain ⟨v2, M1, ov2, h⟩ := cI_in h
  refine b_vI (pc' := 5) tb_L_number r_L_number_2 tb_X10_apply mo_X10_apply (by decide) rfl rfl ov2 (fun r hr => snd_X10_apply hr) (by decide) rfl rfl rfl ?_
  refine b_pop (pc' := 6) tb_L_number r_L_number_5 rfl rfl ?_
  refine b_ic (pc' := 7) (0) tb_L_number r_L_number_6 rfl rfl ?_
  refine b_stn (pc' := 8) [(2, .inl 0), (0, .inr (.inr (.inl 0))), (1, .inl a1)] tb_L_number r_L_number_7 rfl rfl rfl rfl ?_
  refine lp_in (R := fun (j8 : (Nat → Nat → RN)) => ∀ (x3 M4 : Nat), j8 x3 M4 = some r → SN l g D sl 5 0 q q 91 8 [(0, .inr (.inr (.inl 0))), (1, .inl a1), (2, .inl x3)] [] M4 (PR r)) h (fun _ _ h => by cases h) (fun j8 hj8 => ?_) (fun j8 hj8 h => ?_)
  · intro x3 M4 h
    refine b_iln (pc' := 9) (a := .inl x3) tb_L_number r_L_number_8 rfl rfl rfl ?_
    refine b_iln (pc' := 10) (a := .inl a1) tb_L_number r_L_number_9 rfl rfl rfl ?_
    rcases bK_in h with ⟨c1, h⟩ | ⟨c1, h⟩
    · refine b_icT (t := 25) tb_L_number r_L_number_10 rfl ((nGe_c _ _).symm.trans c1) ?_
      exact b_vo tb_L_number r_L_number_25 (sj h).symm
    · refine b_icF (t := 25) (pc' := 13) tb_L_number r_L_number_10 rfl ((nGe_c _ _).symm.trans c1) rfl ?_
      refine b_aln (pc' := 14) (a := .inr (.inr (.inl 0))) tb_L_number r_L_number_13 rfl rfl rfl ?_
      refine b_ic (pc' := 15) (1) tb_L_number r_L_number_14 rfl rfl ?_
      obtain ⟨v6, M5, ov6, h⟩ := cI_in h
      refine b_vI (pc' := 18) tb_L_number r_L_number_15 tb_X10_apply mo_X10_apply (by decide) rfl rfl ov6 (fun r hr => snd_X10_apply hr) (by decide) rfl rfl rfl ?_
      refine b_pop (pc' := 19) tb_L_number r_L_number_18 rfl rfl ?_
      refine b_inc (pc' := 22) (v := x3) (n := 1) [(2, .inl (oAdd x3 1)), (0, .inr (.inr (.inl 0))), (1, .inl a1)] tb_L_number r_L_number_19 rfl rfl rfl rfl rfl ?_
      obtain ⟨v7, ev7, h⟩ := fK_v h
      rw [ev7]
      refine b_goto (pc' := 8) tb_L_number r_L_number_22 rfl ?_
      refine b_sub9 [(0, .inr (.inr (.inl 0))), (1, .inl a1), (2, .inl v7)] ⟨rfl, rfl, rfl, trivial⟩ ?_
      exact hj8 _ _ h
  refine b_sub9 [(0, .inr (.inr (.inl 0))), (1, .inl a1), (2, .inl 0)] ⟨rfl, rfl, rfl, trivial⟩ ?_
  exact hj8 _ _ h
noncomputable def m_L_is (a1 : Nat) (M0 : Nat) : RN :=
  lp (fun _ _ => none) (fun (j2 : (Nat →  Nat → RN)) => fun (x1 : Nat) (M2 : Nat) => bK (nGe x1 a1) (cI (m_X10_code a1 M2) (fun v4 M3 => bK (zNe v4) none (rbK 1 M3))) (cI (m_X10_code x1 M2) (fun v6 M5 => bK (nEq v6 11) (fK (oAdd x1 1) (fun v8 => j2 v8 M5)) none))) (fun (j2 : (Nat →  Nat → RN)) => j2 0 M0)
set_option maxRecDepth 100000 in
theorem snd_L_is {l : Launch} {g : GV} {D : va_G} {sl q : Nat} {a1 M0 : Nat} {r : Nat × Nat} (h : m_L_is a1 M0 = some r) : SN l g D sl 4 0 q q 92 0 [(0, .inr (.inr (.inl 0))), (1, .inl a1)] [] M0 (PR r) := by
  unfold m_L_is at h
  refine b_ic (pc' := 1) (0) tb_L_is r_L_is_0 rfl rfl ?_
  refine b_stn (pc' := 2) [(2, .inl 0), (0, .inr (.inr (.inl 0))), (1, .inl a1)] tb_L_is r_L_is_1 rfl rfl rfl rfl ?_
  refine lp_in (R := fun (j2 : (Nat → Nat → RN)) => ∀ (x1 M2 : Nat), j2 x1 M2 = some r → SN l g D sl 4 0 q q 92 2 [(0, .inr (.inr (.inl 0))), (1, .inl a1), (2, .inl x1)] [] M2 (PR r)) h (fun _ _ h => by cases h) (fun j2 hj2 => ?_) (fun j2 hj2 h => ?_)
  · intro x1 M2 h
    refine b_iln (pc' := 3) (a := .inl x1) tb_L_is r_L_is_2 rfl rfl rfl ?_
    refine b_iln (pc' := 4) (a := .inl a1) tb_L_is r_L_is_3 rfl rfl rfl ?_
    rcases bK_in h with ⟨c1, h⟩ | ⟨c1, h⟩
    · refine b_icT (t := 25) tb_L_is r_L_is_4 rfl ((nGe_c _ _).symm.trans c1) ?_
      refine b_aln (pc' := 26) (a := .inr (.inr (.inl 0))) tb_L_is r_L_is_25 rfl rfl rfl ?_
      refine b_iln (pc' := 27) (a := .inl a1) tb_L_is r_L_is_26 rfl rfl rfl ?_
      obtain ⟨v4, M3, ov4, h⟩ := cI_in h
      refine b_vI (pc' := 30) tb_L_is r_L_is_27 tb_X10_code mo_X10_code (by decide) rfl rfl ov4 (fun r hr => snd_X10_code (u := 0) (fun h0 => by rw [ov4] at hr; cases hr; cases h0) hr) (by decide) rfl rfl rfl ?_
      obtain ⟨c1, h⟩ := bK_f h
      refine b_ifF (t := 37) (pc' := 33) tb_L_is r_L_is_30 rfl ((zNe_c _).symm.trans c1) rfl ?_
      refine b_ic (pc' := 34) (1) tb_L_is r_L_is_33 rfl rfl ?_
      refine b_goto (pc' := 38) tb_L_is r_L_is_34 rfl ?_
      obtain ⟨c1, h⟩ := rbK_in h
      exact b_rb tb_L_is r_L_is_38 rfl c1 h
    · refine b_icF (t := 25) (pc' := 7) tb_L_is r_L_is_4 rfl ((nGe_c _ _).symm.trans c1) rfl ?_
      refine b_aln (pc' := 8) (a := .inr (.inr (.inl 0))) tb_L_is r_L_is_7 rfl rfl rfl ?_
      refine b_iln (pc' := 9) (a := .inl x1) tb_L_is r_L_is_8 rfl rfl rfl ?_
      obtain ⟨v6, M5, ov6, h⟩ := cI_in h
      refine b_vI (pc' := 12) tb_L_is r_L_is_9 tb_X10_code mo_X10_code (by decide) rfl rfl ov6 (fun r hr => snd_X10_code (u := 0) (fun h0 => by rw [ov6] at hr; cases hr; cases h0) hr) (by decide) rfl rfl rfl ?_
      refine b_bi (pc' := 14) (11) tb_L_is r_L_is_12 rfl rfl rfl ?_
      obtain ⟨c1, h⟩ := bK_t h
      refine b_icT (t := 19) tb_L_is r_L_is_14 rfl ((nEq_c _ _).symm.trans c1) ?_
      refine b_inc (pc' := 22) (v := x1) (n := 1) [(2, .inl (oAdd x1 1)), (0, .inr (.inr (.inl 0))), (1, .inl a1)] tb_L_is r_L_is_19 rfl rfl rfl rfl rfl ?_
      obtain ⟨v8, ev8, h⟩ := fK_v h
      rw [ev8]
      refine b_goto (pc' := 2) tb_L_is r_L_is_22 rfl ?_
      refine b_sub9 [(0, .inr (.inr (.inl 0))), (1, .inl a1), (2, .inl v8)] ⟨rfl, rfl, rfl, trivial⟩ ?_
      exact hj2 _ _ h
  refine b_sub9 [(0, .inr (.inr (.inl 0))), (1, .inl a1), (2, .inl 0)] ⟨rfl, rfl, rfl, trivial⟩ ?_
  exact hj2 _ _ h
noncomputable def m_L_first (a1 : Nat) (M0 : Nat) : RN :=
  lK M0 2171 3 0 (fun v1 => jn (fun (s2 : Nat) (M3 : Nat) => some (Nat.add s2 2, M3)) (fun (j24 : (Nat →  Nat → RN)) => bK (zLe v1) (lK M0 2171 3 1 (fun v4 => bK (zLe v4) (j24 50 M0) (j24 40 M0))) (j24 30 M0)))
set_option maxRecDepth 100000 in
theorem snd_L_first {l : Launch} {g : GV} {D : va_G} {sl q : Nat} {a1 M0 : Nat} {r : Nat × Nat} (h : m_L_first a1 M0 = some r) : SN l g D sl 1 0 q q 96 0 [(0, .inr (.inr (.inl 61))), (1, .inl a1)] [] M0 (PR r) := by
  unfold m_L_first at h
  refine b_aln (pc' := 1) (a := .inr (.inr (.inl 61))) tb_L_first r_L_first_0 rfl rfl rfl ?_
  refine b_ic (pc' := 2) (0) tb_L_first r_L_first_1 rfl rfl ?_
  obtain ⟨v1, dv1, cv1, h⟩ := lK_in h
  refine b_ia (pc' := 3) tb_L_first r_L_first_2 tA_61 dv1 cv1 rfl ?_
  refine jn_in (R := fun (j24 : (Nat → Nat → RN)) => ∀ (s2 M3 : Nat), j24 s2 M3 = some r → SN l g D sl 1 0 q q 96 24 [] [.inl s2] M3 (PR r)) h (fun s2 M3 h => ?_) (fun j24 hj24 h => ?_)
  · skip
    exact b_ri tb_L_first r_L_first_24 rfl (sj h).symm
  rcases bK_in h with ⟨c1, h⟩ | ⟨c1, h⟩
  · refine b_ifT (t := 11) tb_L_first r_L_first_3 rfl ((zLe_c _).symm.trans c1) ?_
    refine b_aln (pc' := 12) (a := .inr (.inr (.inl 61))) tb_L_first r_L_first_11 rfl rfl rfl ?_
    refine b_ic (pc' := 13) (1) tb_L_first r_L_first_12 rfl rfl ?_
    obtain ⟨v4, dv4, cv4, h⟩ := lK_in h
    refine b_ia (pc' := 14) tb_L_first r_L_first_13 tA_61 dv4 cv4 rfl ?_
    rcases bK_in h with ⟨c1, h⟩ | ⟨c1, h⟩
    · refine b_ifT (t := 22) tb_L_first r_L_first_14 rfl ((zLe_c _).symm.trans c1) ?_
      refine b_bi (pc' := 24) (50) tb_L_first r_L_first_22 rfl rfl rfl ?_
      refine b_sub9 [] trivial ?_
      exact hj24 _ _ h
    · refine b_ifF (t := 22) (pc' := 17) tb_L_first r_L_first_14 rfl ((zLe_c _).symm.trans c1) rfl ?_
      refine b_bi (pc' := 19) (40) tb_L_first r_L_first_17 rfl rfl rfl ?_
      refine b_goto (pc' := 24) tb_L_first r_L_first_19 rfl ?_
      refine b_sub9 [] trivial ?_
      exact hj24 _ _ h
  · refine b_ifF (t := 11) (pc' := 6) tb_L_first r_L_first_3 rfl ((zLe_c _).symm.trans c1) rfl ?_
    refine b_bi (pc' := 8) (30) tb_L_first r_L_first_6 rfl rfl rfl ?_
    refine b_goto (pc' := 24) tb_L_first r_L_first_8 rfl ?_
    refine b_sub9 [] trivial ?_
    exact hj24 _ _ h
