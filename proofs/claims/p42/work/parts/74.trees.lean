/-! more of them -/
noncomputable def m_X4_partFor (a1 a2 a3 : Nat) (M0 : Nat) : RN :=
  bK (zNe a3) (lK M0 1418 33 a1 (fun v1 => jn (fun (s2 : Nat) (M3 : Nat) => some (Nat.add s2 2, M3)) (fun (j68 : (Nat →  Nat → RN)) => bK (nNe v1 a2) (j68 a1 M0) (lK M0 1451 33 a1 (fun v4 => dvK Nat.mod a3 32 (fun v5 => fK (oAdd (oMul v4 32) v5) (fun v6 => lK M0 1661 417 v6 (fun v7 => lK M0 1517 33 v7 (fun v8 => j68 v8 M0))))))))) (lK M0 2078 12 a2 (fun v9 => jn (fun (s10 : Nat) (M11 : Nat) => some (Nat.add s10 2, M11)) (fun (j29 : (Nat →  Nat → RN)) => bK (nNe v9 4294967295) (lK M0 2078 12 a2 (fun v12 => lK M0 1517 33 v12 (fun v13 => j29 v13 M0))) (j29 4294967295 M0))))
set_option maxRecDepth 100000 in
theorem snd_X4_partFor {l : Launch} {g : GV} {D : va_G} {sl q : Nat} {a1 a2 a3 M0 : Nat} {r : Nat × Nat} (h : m_X4_partFor a1 a2 a3 M0 = some r) : SN l g D sl 1 0 q q 64 0 [(0, .inr (.inr (.inl 28))), (1, .inl a1), (2, .inl a2), (3, .inl a3)] [] M0 (PR r) := by
  unfold m_X4_partFor at h
  refine b_iln (pc' := 1) (a := .inl a3) tb_X4_partFor r_X4_partFor_0 rfl rfl rfl ?_
  rcases bK_in h with ⟨c1, h⟩ | ⟨c1, h⟩
  · refine b_ifT (t := 30) tb_X4_partFor r_X4_partFor_1 rfl ((zNe_c _).symm.trans c1) ?_
    refine b_aln (pc' := 31) (a := .inr (.inr (.inl 28))) tb_X4_partFor r_X4_partFor_30 rfl rfl rfl ?_
    refine b_gr (pc' := 34) tb_X4_partFor r_X4_partFor_31 tF_28_4_5 rfl ?_
    refine b_iln (pc' := 35) (a := .inl a1) tb_X4_partFor r_X4_partFor_34 rfl rfl rfl ?_
    obtain ⟨v1, dv1, cv1, h⟩ := lK_in h
    refine b_ia (pc' := 36) tb_X4_partFor r_X4_partFor_35 tA_31 dv1 cv1 rfl ?_
    refine b_iln (pc' := 37) (a := .inl a2) tb_X4_partFor r_X4_partFor_36 rfl rfl rfl ?_
    refine jn_in (R := fun (j68 : (Nat → Nat → RN)) => ∀ (s2 M3 : Nat), j68 s2 M3 = some r → SN l g D sl 1 0 q q 64 68 [] [.inl s2] M3 (PR r)) h (fun s2 M3 h => ?_) (fun j68 hj68 h => ?_)
    · skip
      exact b_ri tb_X4_partFor r_X4_partFor_68 rfl (sj h).symm
    rcases bK_in h with ⟨c1, h⟩ | ⟨c1, h⟩
    · refine b_icT (t := 67) tb_X4_partFor r_X4_partFor_37 rfl ((nNe_c _ _).symm.trans c1) ?_
      refine b_iln (pc' := 68) (a := .inl a1) tb_X4_partFor r_X4_partFor_67 rfl rfl rfl ?_
      refine b_sub9 [] trivial ?_
      exact hj68 _ _ h
    · refine b_icF (t := 67) (pc' := 40) tb_X4_partFor r_X4_partFor_37 rfl ((nNe_c _ _).symm.trans c1) rfl ?_
      refine b_aln (pc' := 41) (a := .inr (.inr (.inl 28))) tb_X4_partFor r_X4_partFor_40 rfl rfl rfl ?_
      refine b_gr (pc' := 44) tb_X4_partFor r_X4_partFor_41 tF_28_4_8 rfl ?_
      refine b_aln (pc' := 45) (a := .inr (.inr (.inl 28))) tb_X4_partFor r_X4_partFor_44 rfl rfl rfl ?_
      refine b_gr (pc' := 48) tb_X4_partFor r_X4_partFor_45 tF_28_4_13 rfl ?_
      refine b_aln (pc' := 49) (a := .inr (.inr (.inl 28))) tb_X4_partFor r_X4_partFor_48 rfl rfl rfl ?_
      refine b_gr (pc' := 52) tb_X4_partFor r_X4_partFor_49 tF_28_4_6 rfl ?_
      refine b_iln (pc' := 53) (a := .inl a1) tb_X4_partFor r_X4_partFor_52 rfl rfl rfl ?_
      obtain ⟨v4, dv4, cv4, h⟩ := lK_in h
      refine b_ia (pc' := 54) tb_X4_partFor r_X4_partFor_53 tA_32 dv4 cv4 rfl ?_
      refine b_bi (pc' := 56) (32) tb_X4_partFor r_X4_partFor_54 rfl rfl rfl ?_
      refine b_mul (pc' := 57) tb_X4_partFor r_X4_partFor_56 rfl ?_
      refine b_iln (pc' := 58) (a := .inl a3) tb_X4_partFor r_X4_partFor_57 rfl rfl rfl ?_
      refine b_bi (pc' := 60) (32) tb_X4_partFor r_X4_partFor_58 rfl rfl rfl ?_
      obtain ⟨v5, c1, c2, c3, ev5, h⟩ := dvK_in h
      refine b_rem (pc' := 61) tb_X4_partFor r_X4_partFor_60 c1 c2 c3 ev5 rfl ?_
      refine b_add (pc' := 62) tb_X4_partFor r_X4_partFor_61 rfl ?_
      obtain ⟨v6, ev6, h⟩ := fK_v h
      rw [ev6]
      obtain ⟨v7, dv7, cv7, h⟩ := lK_in h
      refine b_ia (pc' := 63) tb_X4_partFor r_X4_partFor_62 tA_38 dv7 cv7 rfl ?_
      obtain ⟨v8, dv8, cv8, h⟩ := lK_in h
      refine b_ia (pc' := 64) tb_X4_partFor r_X4_partFor_63 tA_34 dv8 cv8 rfl ?_
      refine b_goto (pc' := 68) tb_X4_partFor r_X4_partFor_64 rfl ?_
      refine b_sub9 [] trivial ?_
      exact hj68 _ _ h
  · refine b_ifF (t := 30) (pc' := 4) tb_X4_partFor r_X4_partFor_1 rfl ((zNe_c _).symm.trans c1) rfl ?_
    refine b_aln (pc' := 5) (a := .inr (.inr (.inl 28))) tb_X4_partFor r_X4_partFor_4 rfl rfl rfl ?_
    refine b_gr (pc' := 8) tb_X4_partFor r_X4_partFor_5 tF_28_4_14 rfl ?_
    refine b_iln (pc' := 9) (a := .inl a2) tb_X4_partFor r_X4_partFor_8 rfl rfl rfl ?_
    obtain ⟨v9, dv9, cv9, h⟩ := lK_in h
    refine b_ia (pc' := 10) tb_X4_partFor r_X4_partFor_9 tA_39 dv9 cv9 rfl ?_
    refine b_ic (pc' := 11) (4294967295) tb_X4_partFor r_X4_partFor_10 rfl rfl ?_
    refine jn_in (R := fun (j29 : (Nat → Nat → RN)) => ∀ (s10 M11 : Nat), j29 s10 M11 = some r → SN l g D sl 1 0 q q 64 29 [] [.inl s10] M11 (PR r)) h (fun s10 M11 h => ?_) (fun j29 hj29 h => ?_)
    · skip
      exact b_ri tb_X4_partFor r_X4_partFor_29 rfl (sj h).symm
    rcases bK_in h with ⟨c1, h⟩ | ⟨c1, h⟩
    · refine b_icT (t := 18) tb_X4_partFor r_X4_partFor_11 rfl ((nNe_c _ _).symm.trans c1) ?_
      refine b_aln (pc' := 19) (a := .inr (.inr (.inl 28))) tb_X4_partFor r_X4_partFor_18 rfl rfl rfl ?_
      refine b_gr (pc' := 22) tb_X4_partFor r_X4_partFor_19 tF_28_4_8 rfl ?_
      refine b_aln (pc' := 23) (a := .inr (.inr (.inl 28))) tb_X4_partFor r_X4_partFor_22 rfl rfl rfl ?_
      refine b_gr (pc' := 26) tb_X4_partFor r_X4_partFor_23 tF_28_4_14 rfl ?_
      refine b_iln (pc' := 27) (a := .inl a2) tb_X4_partFor r_X4_partFor_26 rfl rfl rfl ?_
      obtain ⟨v12, dv12, cv12, h⟩ := lK_in h
      refine b_ia (pc' := 28) tb_X4_partFor r_X4_partFor_27 tA_39 dv12 cv12 rfl ?_
      obtain ⟨v13, dv13, cv13, h⟩ := lK_in h
      refine b_ia (pc' := 29) tb_X4_partFor r_X4_partFor_28 tA_34 dv13 cv13 rfl ?_
      refine b_sub9 [] trivial ?_
      exact hj29 _ _ h
    · refine b_icF (t := 18) (pc' := 14) tb_X4_partFor r_X4_partFor_11 rfl ((nNe_c _ _).symm.trans c1) rfl ?_
      refine b_ic (pc' := 15) (4294967295) tb_X4_partFor r_X4_partFor_14 rfl rfl ?_
      refine b_goto (pc' := 29) tb_X4_partFor r_X4_partFor_15 rfl ?_
      refine b_sub9 [] trivial ?_
      exact hj29 _ _ h
noncomputable def m_X4_passesOver (a1 a2 a3 : Nat) (M0 : Nat) : RN :=
  fK (oAnd a2 (oShl (oAnd a3 (oXor a2 4294967295)) 1)) (fun v1 => lp (fun _ _ => none) (fun (j14 : (Nat →  Nat → RN)) => fun (x2 : Nat) (M3 : Nat) => jn (fun (M4 : Nat) => rbK 0 M4) (fun (j86 : ( Nat → RN)) => bK (nGe x2 5) (j86 M3) (bK (zEq v1) (j86 M3) (lK M3 1451 33 a1 (fun v5 => fK (oAdd (oMul v5 5) x2) (fun v6 => hK v1 x2 (fun v7 => jn (fun (M8 : Nat) => fK (oAdd x2 1) (fun v9 => j14 v9 M8)) (fun (j80 : ( Nat → RN)) => bK (nNe (oAnd v7 1) 1) (j80 M3) (lK M3 1600 61 v6 (fun v10 => lK M3 1517 33 v10 (fun v11 => fK (oSub v6 1) (fun v12 => lK M3 1600 61 v12 (fun v13 => lK M3 1517 33 v13 (fun v14 => bK (nNe v11 v14) (j80 M3) (rbK 1 M3))))))))))))))) (fun (j14 : (Nat →  Nat → RN)) => j14 1 M0))
set_option maxRecDepth 100000 in
theorem snd_X4_passesOver {l : Launch} {g : GV} {D : va_G} {sl q : Nat} {a1 a2 a3 M0 : Nat} {r : Nat × Nat} (h : m_X4_passesOver a1 a2 a3 M0 = some r) : SN l g D sl 1 0 q q 63 0 [(0, .inr (.inr (.inl 28))), (1, .inl a1), (2, .inl a2), (3, .inl a3)] [] M0 (PR r) := by
  unfold m_X4_passesOver at h
  refine b_iln (pc' := 1) (a := .inl a2) tb_X4_passesOver r_X4_passesOver_0 rfl rfl rfl ?_
  refine b_iln (pc' := 2) (a := .inl a3) tb_X4_passesOver r_X4_passesOver_1 rfl rfl rfl ?_
  refine b_iln (pc' := 3) (a := .inl a2) tb_X4_passesOver r_X4_passesOver_2 rfl rfl rfl ?_
  refine b_ic (pc' := 4) (4294967295) tb_X4_passesOver r_X4_passesOver_3 rfl rfl ?_
  refine b_xor (pc' := 5) tb_X4_passesOver r_X4_passesOver_4 rfl ?_
  refine b_and (pc' := 6) tb_X4_passesOver r_X4_passesOver_5 rfl ?_
  refine b_ic (pc' := 7) (1) tb_X4_passesOver r_X4_passesOver_6 rfl rfl ?_
  refine b_shl (pc' := 8) tb_X4_passesOver r_X4_passesOver_7 rfl ?_
  refine b_and (pc' := 9) tb_X4_passesOver r_X4_passesOver_8 rfl ?_
  obtain ⟨v1, ev1, h⟩ := fK_v h
  rw [ev1]
  refine b_st (pc' := 11) [(4, .inl v1), (0, .inr (.inr (.inl 28))), (1, .inl a1), (2, .inl a2), (3, .inl a3)] tb_X4_passesOver r_X4_passesOver_9 rfl rfl rfl rfl ?_
  refine b_ic (pc' := 12) (1) tb_X4_passesOver r_X4_passesOver_11 rfl rfl ?_
  refine b_st (pc' := 14) [(5, .inl 1), (4, .inl v1), (0, .inr (.inr (.inl 28))), (1, .inl a1), (2, .inl a2), (3, .inl a3)] tb_X4_passesOver r_X4_passesOver_12 rfl rfl rfl rfl ?_
  refine lp_in (R := fun (j14 : (Nat → Nat → RN)) => ∀ (x2 M3 : Nat), j14 x2 M3 = some r → SN l g D sl 1 0 q q 63 14 [(0, .inr (.inr (.inl 28))), (1, .inl a1), (4, .inl v1), (5, .inl x2)] [] M3 (PR r)) h (fun _ _ h => by cases h) (fun j14 hj14 => ?_) (fun j14 hj14 h => ?_)
  · intro x2 M3 h
    refine b_il (pc' := 16) (a := .inl x2) tb_X4_passesOver r_X4_passesOver_14 rfl rfl rfl ?_
    refine b_ic (pc' := 17) (5) tb_X4_passesOver r_X4_passesOver_16 rfl rfl ?_
    refine jn_in (R := fun (j86 : ( Nat → RN)) => ∀ (M4 : Nat), j86 M4 = some r → SN l g D sl 1 0 q q 63 86 [] [] M4 (PR r)) h (fun M4 h => ?_) (fun j86 hj86 h => ?_)
    · skip
      refine b_ic (pc' := 87) (0) tb_X4_passesOver r_X4_passesOver_86 rfl rfl ?_
      obtain ⟨c1, h⟩ := rbK_in h
      exact b_rb tb_X4_passesOver r_X4_passesOver_87 rfl c1 h
    rcases bK_in h with ⟨c1, h⟩ | ⟨c1, h⟩
    · refine b_icT (t := 86) tb_X4_passesOver r_X4_passesOver_17 rfl ((nGe_c _ _).symm.trans c1) ?_
      refine b_sub9 [] trivial ?_
      exact hj86 _ h
    · refine b_icF (t := 86) (pc' := 20) tb_X4_passesOver r_X4_passesOver_17 rfl ((nGe_c _ _).symm.trans c1) rfl ?_
      refine b_il (pc' := 22) (a := .inl v1) tb_X4_passesOver r_X4_passesOver_20 rfl rfl rfl ?_
      rcases bK_in h with ⟨c1, h⟩ | ⟨c1, h⟩
      · refine b_ifT (t := 86) tb_X4_passesOver r_X4_passesOver_22 rfl ((zEq_c _).symm.trans c1) ?_
        refine b_sub9 [] trivial ?_
        exact hj86 _ h
      · refine b_ifF (t := 86) (pc' := 25) tb_X4_passesOver r_X4_passesOver_22 rfl ((zEq_c _).symm.trans c1) rfl ?_
        refine b_aln (pc' := 26) (a := .inr (.inr (.inl 28))) tb_X4_passesOver r_X4_passesOver_25 rfl rfl rfl ?_
        refine b_gr (pc' := 29) tb_X4_passesOver r_X4_passesOver_26 tF_28_4_6 rfl ?_
        refine b_iln (pc' := 30) (a := .inl a1) tb_X4_passesOver r_X4_passesOver_29 rfl rfl rfl ?_
        obtain ⟨v5, dv5, cv5, h⟩ := lK_in h
        refine b_ia (pc' := 31) tb_X4_passesOver r_X4_passesOver_30 tA_32 dv5 cv5 rfl ?_
        refine b_ic (pc' := 32) (5) tb_X4_passesOver r_X4_passesOver_31 rfl rfl ?_
        refine b_mul (pc' := 33) tb_X4_passesOver r_X4_passesOver_32 rfl ?_
        refine b_il (pc' := 35) (a := .inl x2) tb_X4_passesOver r_X4_passesOver_33 rfl rfl rfl ?_
        refine b_add (pc' := 36) tb_X4_passesOver r_X4_passesOver_35 rfl ?_
        obtain ⟨v6, ev6, h⟩ := fK_v h
        rw [ev6]
        refine b_st (pc' := 38) [(6, .inl v6), (0, .inr (.inr (.inl 28))), (1, .inl a1), (4, .inl v1), (5, .inl x2)] tb_X4_passesOver r_X4_passesOver_36 rfl rfl rfl rfl ?_
        refine b_il (pc' := 40) (a := .inl v1) tb_X4_passesOver r_X4_passesOver_38 rfl rfl rfl ?_
        refine b_il (pc' := 42) (a := .inl x2) tb_X4_passesOver r_X4_passesOver_40 rfl rfl rfl ?_
        obtain ⟨v7, c1, ev7, h⟩ := hK_in h
        refine b_shr (pc' := 43) tb_X4_passesOver r_X4_passesOver_42 c1 ev7 rfl ?_
        refine b_ic (pc' := 44) (1) tb_X4_passesOver r_X4_passesOver_43 rfl rfl ?_
        refine b_and (pc' := 45) tb_X4_passesOver r_X4_passesOver_44 rfl ?_
        refine b_ic (pc' := 46) (1) tb_X4_passesOver r_X4_passesOver_45 rfl rfl ?_
        refine jn_in (R := fun (j80 : ( Nat → RN)) => ∀ (M8 : Nat), j80 M8 = some r → SN l g D sl 1 0 q q 63 80 [(0, .inr (.inr (.inl 28))), (1, .inl a1), (4, .inl v1), (5, .inl x2)] [] M8 (PR r)) h (fun M8 h => ?_) (fun j80 hj80 h => ?_)
        · skip
          refine b_inc (pc' := 83) (v := x2) (n := 1) [(5, .inl (oAdd x2 1)), (0, .inr (.inr (.inl 28))), (1, .inl a1), (4, .inl v1)] tb_X4_passesOver r_X4_passesOver_80 rfl rfl rfl rfl rfl ?_
          obtain ⟨v9, ev9, h⟩ := fK_v h
          rw [ev9]
          refine b_goto (pc' := 14) tb_X4_passesOver r_X4_passesOver_83 rfl ?_
          refine b_sub9 [(0, .inr (.inr (.inl 28))), (1, .inl a1), (4, .inl v1), (5, .inl v9)] ⟨rfl, rfl, rfl, rfl, trivial⟩ ?_
          exact hj14 _ _ h
        rcases bK_in h with ⟨c1, h⟩ | ⟨c1, h⟩
        · refine b_icT (t := 80) tb_X4_passesOver r_X4_passesOver_46 rfl ((nNe_c _ _).symm.trans c1) ?_
          refine b_sub9 [(0, .inr (.inr (.inl 28))), (1, .inl a1), (4, .inl v1), (5, .inl x2)] ⟨rfl, rfl, rfl, rfl, trivial⟩ ?_
          exact hj80 _ h
        · refine b_icF (t := 80) (pc' := 49) tb_X4_passesOver r_X4_passesOver_46 rfl ((nNe_c _ _).symm.trans c1) rfl ?_
          refine b_aln (pc' := 50) (a := .inr (.inr (.inl 28))) tb_X4_passesOver r_X4_passesOver_49 rfl rfl rfl ?_
          refine b_gr (pc' := 53) tb_X4_passesOver r_X4_passesOver_50 tF_28_4_8 rfl ?_
          refine b_aln (pc' := 54) (a := .inr (.inr (.inl 28))) tb_X4_passesOver r_X4_passesOver_53 rfl rfl rfl ?_
          refine b_gr (pc' := 57) tb_X4_passesOver r_X4_passesOver_54 tF_28_4_12 rfl ?_
          refine b_il (pc' := 59) (a := .inl v6) tb_X4_passesOver r_X4_passesOver_57 rfl rfl rfl ?_
          obtain ⟨v10, dv10, cv10, h⟩ := lK_in h
          refine b_ia (pc' := 60) tb_X4_passesOver r_X4_passesOver_59 tA_37 dv10 cv10 rfl ?_
          obtain ⟨v11, dv11, cv11, h⟩ := lK_in h
          refine b_ia (pc' := 61) tb_X4_passesOver r_X4_passesOver_60 tA_34 dv11 cv11 rfl ?_
          refine b_aln (pc' := 62) (a := .inr (.inr (.inl 28))) tb_X4_passesOver r_X4_passesOver_61 rfl rfl rfl ?_
          refine b_gr (pc' := 65) tb_X4_passesOver r_X4_passesOver_62 tF_28_4_8 rfl ?_
          refine b_aln (pc' := 66) (a := .inr (.inr (.inl 28))) tb_X4_passesOver r_X4_passesOver_65 rfl rfl rfl ?_
          refine b_gr (pc' := 69) tb_X4_passesOver r_X4_passesOver_66 tF_28_4_12 rfl ?_
          refine b_il (pc' := 71) (a := .inl v6) tb_X4_passesOver r_X4_passesOver_69 rfl rfl rfl ?_
          refine b_ic (pc' := 72) (1) tb_X4_passesOver r_X4_passesOver_71 rfl rfl ?_
          refine b_sub (pc' := 73) tb_X4_passesOver r_X4_passesOver_72 rfl ?_
          obtain ⟨v12, ev12, h⟩ := fK_v h
          rw [ev12]
          obtain ⟨v13, dv13, cv13, h⟩ := lK_in h
          refine b_ia (pc' := 74) tb_X4_passesOver r_X4_passesOver_73 tA_37 dv13 cv13 rfl ?_
          obtain ⟨v14, dv14, cv14, h⟩ := lK_in h
          refine b_ia (pc' := 75) tb_X4_passesOver r_X4_passesOver_74 tA_34 dv14 cv14 rfl ?_
          rcases bK_in h with ⟨c1, h⟩ | ⟨c1, h⟩
          · refine b_icT (t := 80) tb_X4_passesOver r_X4_passesOver_75 rfl ((nNe_c _ _).symm.trans c1) ?_
            refine b_sub9 [(0, .inr (.inr (.inl 28))), (1, .inl a1), (4, .inl v1), (5, .inl x2)] ⟨rfl, rfl, rfl, rfl, trivial⟩ ?_
            exact hj80 _ h
          · refine b_icF (t := 80) (pc' := 78) tb_X4_passesOver r_X4_passesOver_75 rfl ((nNe_c _ _).symm.trans c1) rfl ?_
            refine b_ic (pc' := 79) (1) tb_X4_passesOver r_X4_passesOver_78 rfl rfl ?_
            obtain ⟨c1, h⟩ := rbK_in h
            exact b_rb tb_X4_passesOver r_X4_passesOver_79 rfl c1 h
  refine b_sub9 [(0, .inr (.inr (.inl 28))), (1, .inl a1), (4, .inl v1), (5, .inl 1)] ⟨rfl, rfl, rfl, rfl, trivial⟩ ?_
  exact hj14 _ _ h
noncomputable def m_X3_share (sv : Nat → Nat → RN) (a1 : Nat) (M0 : Nat) : RN :=
  lK M0 1325 5 a1 (fun v1 => lK M0 1330 7 a1 (fun v2 => lK M0 1337 5 a1 (fun v3 => lK M0 28 12 v1 (fun v4 => jn (fun (s5 : Nat) (M6 : Nat) => cI (m_J6_bitCount_0f7a4 v3 M6) (fun v8 M7 => jn (fun (s9 : Nat) (M10 : Nat) => jn (fun (s11 : Nat) (M12 : Nat) => rK M12 1255 (fun v13 => lp (fun _ _ _ => none) (fun (j98 : (Nat → Nat →  Nat → RN)) => fun (x14 : Nat) (x15 : Nat) (M16 : Nat) => bK (nGe x15 s9) (some (1, M16)) (jn (fun (s17 : Nat) (M18 : Nat) => jn (fun (s19 : Nat) (M20 : Nat) => lK M20 1342 7 a1 (fun v21 => jn (fun (x22 : Nat) (M23 : Nat) => jn (fun (M24 : Nat) => fK (oAnd v3 (oXor x14 4294967295)) (fun v25 => cI (m_J6_lowestOneBit_0f7a4 v25 M24) (fun v27 M26 => jn (fun (s28 : Nat) (M29 : Nat) => fK (oAdd x15 1) (fun v30 => j98 s28 v30 M29)) (fun (j305 : (Nat →  Nat → RN)) => bK (zEq s5) (fK (oAnd (oSub x14 v3) v3) (fun v31 => j305 v31 M26)) (fK (oOr x14 v27) (fun v32 => j305 v32 M26)))))) (fun (j272 : ( Nat → RN)) => bK (nEq s19 4294967295) (j272 M23) (lK M23 1311 7 a1 (fun v33 => cI (m_X3_addDuty v33 s19 x22 M23) (fun v35 M34 => cV (sv v35 M34) (fun M36 => pK M36 1255 v13 (fun M37 => j272 M37))))))) (fun (j242 : (Nat →  Nat → RN)) => bK (nEq s19 4294967295) (j242 v21 M20) (bK (nLe v2 1) (j242 v21 M20) (lK M20 1311 7 a1 (fun v38 => cI (m_X8_end v38 M20) (fun v40 M39 => lK M39 1318 7 a1 (fun v41 => cI (m_X3_addDuty v40 v41 v21 M39) (fun v43 M42 => sK M42 1325 5 v43 v1 (fun M44 => sK M44 1330 7 v43 (oSub v2 1) (fun M45 => sK M45 1337 5 v43 (oAnd v3 (oXor x14 4294967295)) (fun M46 => j242 v43 M46)))))))))))) (fun (j162 : (Nat →  Nat → RN)) => bK (zEq s17) (lK M18 1318 7 a1 (fun v47 => cI (m_X4_partFor v47 v1 x14 M18) (fun v49 M48 => j162 v49 M48))) (j162 4294967295 M18))) (fun (j135 : (Nat →  Nat → RN)) => jn (fun (M50 : Nat) => j135 0 M50) (fun (j134 : ( Nat → RN)) => bK (zNe s5) (j134 M16) (lK M16 1318 7 a1 (fun v51 => cI (m_X4_passesOver v51 x14 v3 M16) (fun v53 M52 => bK (zEq v53) (j134 M52) (j135 1 M52)))))))) (fun (j98 : (Nat → Nat →  Nat → RN)) => j98 s11 0 M12))) (fun (j87 : (Nat →  Nat → RN)) => bK (nNe v2 1) (j87 0 M10) (j87 v3 M10))) (fun (j74 : (Nat →  Nat → RN)) => bK (nNe v2 1) (bK (zEq s5) (fK (oShl 1 v8) (fun v54 => j74 v54 M7)) (fK (oAdd v8 1) (fun v55 => j74 v55 M7))) (j74 1 M7)))) (fun (j40 : (Nat →  Nat → RN)) => bK (nNe v4 2) (j40 0 M0) (j40 1 M0))))))
set_option maxRecDepth 100000 in
theorem snd_X3_share {l : Launch} {g : GV} {D : va_G} {sl q hh : Nat} {sv : Nat → Nat → RN} (hsv : ∀ (a M : Nat) (r : Nat × Nat), sv a M = some r → SN l g D sl hh 0 q q 49 0 [(0, .inr (.inr (.inl 19))), (1, .inl a)] [] M (PR r)) (hb : 1 ≤ hh) {a1 M0 : Nat} {r : Nat × Nat} (h : m_X3_share sv a1 M0 = some r) : SN l g D sl (hh + 1) 0 q q 53 0 [(0, .inr (.inr (.inl 19))), (1, .inl a1)] [] M0 (PR r) := by
  unfold m_X3_share at h
  refine b_aln (pc' := 1) (a := .inr (.inr (.inl 19))) tb_X3_share r_X3_share_0 rfl rfl rfl ?_
  refine b_gr (pc' := 4) tb_X3_share r_X3_share_1 tF_19_3_8 rfl ?_
  refine b_iln (pc' := 5) (a := .inl a1) tb_X3_share r_X3_share_4 rfl rfl rfl ?_
  obtain ⟨v1, dv1, cv1, h⟩ := lK_in h
  refine b_ia (pc' := 6) tb_X3_share r_X3_share_5 tA_24 dv1 cv1 rfl ?_
  refine b_stn (pc' := 7) [(2, .inl v1), (0, .inr (.inr (.inl 19))), (1, .inl a1)] tb_X3_share r_X3_share_6 rfl rfl rfl rfl ?_
  refine b_aln (pc' := 8) (a := .inr (.inr (.inl 19))) tb_X3_share r_X3_share_7 rfl rfl rfl ?_
  refine b_gr (pc' := 11) tb_X3_share r_X3_share_8 tF_19_3_9 rfl ?_
  refine b_iln (pc' := 12) (a := .inl a1) tb_X3_share r_X3_share_11 rfl rfl rfl ?_
  obtain ⟨v2, dv2, cv2, h⟩ := lK_in h
  refine b_ia (pc' := 13) tb_X3_share r_X3_share_12 tA_25 dv2 cv2 rfl ?_
  refine b_stn (pc' := 14) [(3, .inl v2), (2, .inl v1), (0, .inr (.inr (.inl 19))), (1, .inl a1)] tb_X3_share r_X3_share_13 rfl rfl rfl rfl ?_
  refine b_aln (pc' := 15) (a := .inr (.inr (.inl 19))) tb_X3_share r_X3_share_14 rfl rfl rfl ?_
  refine b_gr (pc' := 18) tb_X3_share r_X3_share_15 tF_19_3_10 rfl ?_
  refine b_iln (pc' := 19) (a := .inl a1) tb_X3_share r_X3_share_18 rfl rfl rfl ?_
  obtain ⟨v3, dv3, cv3, h⟩ := lK_in h
  refine b_ia (pc' := 20) tb_X3_share r_X3_share_19 tA_26 dv3 cv3 rfl ?_
  refine b_st (pc' := 22) [(4, .inl v3), (3, .inl v2), (2, .inl v1), (0, .inr (.inr (.inl 19))), (1, .inl a1)] tb_X3_share r_X3_share_20 rfl rfl rfl rfl ?_
  refine b_aln (pc' := 23) (a := .inr (.inr (.inl 19))) tb_X3_share r_X3_share_22 rfl rfl rfl ?_
  refine b_gr (pc' := 26) tb_X3_share r_X3_share_23 tF_19_3_1 rfl ?_
  refine b_gr (pc' := 29) tb_X3_share r_X3_share_26 tF_1_7_5 rfl ?_
  refine b_iln (pc' := 30) (a := .inl v1) tb_X3_share r_X3_share_29 rfl rfl rfl ?_
  obtain ⟨v4, dv4, cv4, h⟩ := lK_in h
  refine b_ia (pc' := 31) tb_X3_share r_X3_share_30 tA_5 dv4 cv4 rfl ?_
  refine b_ic (pc' := 32) (2) tb_X3_share r_X3_share_31 rfl rfl ?_
  refine jn_in (R := fun (j40 : (Nat → Nat → RN)) => ∀ (s5 M6 : Nat), j40 s5 M6 = some r → SN l g D sl (hh + 1) 0 q q 53 40 [(0, .inr (.inr (.inl 19))), (1, .inl a1), (2, .inl v1), (3, .inl v2), (4, .inl v3)] [.inl s5] M6 (PR r)) h (fun s5 M6 h => ?_) (fun j40 hj40 h => ?_)
  · skip
    refine b_st (pc' := 42) [(5, .inl s5), (0, .inr (.inr (.inl 19))), (1, .inl a1), (2, .inl v1), (3, .inl v2), (4, .inl v3)] tb_X3_share r_X3_share_40 rfl rfl rfl rfl ?_
    refine b_il (pc' := 44) (a := .inl v3) tb_X3_share r_X3_share_42 rfl rfl rfl ?_
    obtain ⟨v8, M7, ov8, h⟩ := cI_in h
    refine b_sI (pc' := 47) tb_X3_share r_X3_share_44 tb_J6_bitCount_0f7a4 mo_J6_bitCount_0f7a4 (by decide) rfl rfl ov8 (fun r hr => snd_J6_bitCount_0f7a4 hr) (Nat.le_trans (by decide) (Nat.le_trans hb (by omega))) rfl rfl rfl ?_
    refine b_st (pc' := 49) [(6, .inl v8), (5, .inl s5), (0, .inr (.inr (.inl 19))), (1, .inl a1), (2, .inl v1), (3, .inl v2), (4, .inl v3)] tb_X3_share r_X3_share_47 rfl rfl rfl rfl ?_
    refine b_iln (pc' := 50) (a := .inl v2) tb_X3_share r_X3_share_49 rfl rfl rfl ?_
    refine b_ic (pc' := 51) (1) tb_X3_share r_X3_share_50 rfl rfl ?_
    refine jn_in (R := fun (j74 : (Nat → Nat → RN)) => ∀ (s9 M10 : Nat), j74 s9 M10 = some r → SN l g D sl (hh + 1) 0 q q 53 74 [(0, .inr (.inr (.inl 19))), (1, .inl a1), (2, .inl v1), (3, .inl v2), (4, .inl v3), (5, .inl s5)] [.inl s9] M10 (PR r)) h (fun s9 M10 h => ?_) (fun j74 hj74 h => ?_)
    · skip
      refine b_st (pc' := 76) [(7, .inl s9), (0, .inr (.inr (.inl 19))), (1, .inl a1), (2, .inl v1), (3, .inl v2), (4, .inl v3), (5, .inl s5)] tb_X3_share r_X3_share_74 rfl rfl rfl rfl ?_
      refine b_iln (pc' := 77) (a := .inl v2) tb_X3_share r_X3_share_76 rfl rfl rfl ?_
      refine b_ic (pc' := 78) (1) tb_X3_share r_X3_share_77 rfl rfl ?_
      refine jn_in (R := fun (j87 : (Nat → Nat → RN)) => ∀ (s11 M12 : Nat), j87 s11 M12 = some r → SN l g D sl (hh + 1) 0 q q 53 87 [(0, .inr (.inr (.inl 19))), (1, .inl a1), (2, .inl v1), (3, .inl v2), (4, .inl v3), (5, .inl s5), (7, .inl s9)] [.inl s11] M12 (PR r)) h (fun s11 M12 h => ?_) (fun j87 hj87 h => ?_)
      · skip
        refine b_st (pc' := 89) [(8, .inl s11), (0, .inr (.inr (.inl 19))), (1, .inl a1), (2, .inl v1), (3, .inl v2), (4, .inl v3), (5, .inl s5), (7, .inl s9)] tb_X3_share r_X3_share_87 rfl rfl rfl rfl ?_
        refine b_aln (pc' := 90) (a := .inr (.inr (.inl 19))) tb_X3_share r_X3_share_89 rfl rfl rfl ?_
        obtain ⟨v13, cv13, h⟩ := rK_in h
        refine b_gi (pc' := 93) tb_X3_share r_X3_share_90 tF_19_3_12 cv13 rfl ?_
        refine b_st (pc' := 95) [(9, .inl v13), (8, .inl s11), (0, .inr (.inr (.inl 19))), (1, .inl a1), (2, .inl v1), (3, .inl v2), (4, .inl v3), (5, .inl s5), (7, .inl s9)] tb_X3_share r_X3_share_93 rfl rfl rfl rfl ?_
        refine b_ic (pc' := 96) (0) tb_X3_share r_X3_share_95 rfl rfl ?_
        refine b_st (pc' := 98) [(10, .inl 0), (9, .inl v13), (8, .inl s11), (0, .inr (.inr (.inl 19))), (1, .inl a1), (2, .inl v1), (3, .inl v2), (4, .inl v3), (5, .inl s5), (7, .inl s9)] tb_X3_share r_X3_share_96 rfl rfl rfl rfl ?_
        refine lp_in (R := fun (j98 : (Nat → Nat → Nat → RN)) => ∀ (x14 x15 M16 : Nat), j98 x14 x15 M16 = some r → SN l g D sl (hh + 1) 0 q q 53 98 [(0, .inr (.inr (.inl 19))), (1, .inl a1), (2, .inl v1), (3, .inl v2), (4, .inl v3), (5, .inl s5), (7, .inl s9), (8, .inl x14), (9, .inl v13), (10, .inl x15)] [] M16 (PR r)) h (fun _ _ _ h => by cases h) (fun j98 hj98 => ?_) (fun j98 hj98 h => ?_)
        · intro x14 x15 M16 h
          refine b_il (pc' := 100) (a := .inl x15) tb_X3_share r_X3_share_98 rfl rfl rfl ?_
          refine b_il (pc' := 102) (a := .inl s9) tb_X3_share r_X3_share_100 rfl rfl rfl ?_
          rcases bK_in h with ⟨c1, h⟩ | ⟨c1, h⟩
          · refine b_icT (t := 313) tb_X3_share r_X3_share_102 rfl ((nGe_c _ _).symm.trans c1) ?_
            exact b_vo tb_X3_share r_X3_share_313 (sj h).symm
          · refine b_icF (t := 313) (pc' := 105) tb_X3_share r_X3_share_102 rfl ((nGe_c _ _).symm.trans c1) rfl ?_
            refine b_il (pc' := 107) (a := .inl s5) tb_X3_share r_X3_share_105 rfl rfl rfl ?_
            refine jn_in (R := fun (j135 : (Nat → Nat → RN)) => ∀ (s17 M18 : Nat), j135 s17 M18 = some r → SN l g D sl (hh + 1) 0 q q 53 135 [(0, .inr (.inr (.inl 19))), (1, .inl a1), (2, .inl v1), (3, .inl v2), (4, .inl v3), (5, .inl s5), (7, .inl s9), (8, .inl x14), (9, .inl v13), (10, .inl x15)] [.inl s17] M18 (PR r)) h (fun s17 M18 h => ?_) (fun j135 hj135 h => ?_)
            · skip
              refine b_st (pc' := 137) [(11, .inl s17), (0, .inr (.inr (.inl 19))), (1, .inl a1), (2, .inl v1), (3, .inl v2), (4, .inl v3), (5, .inl s5), (7, .inl s9), (8, .inl x14), (9, .inl v13), (10, .inl x15)] tb_X3_share r_X3_share_135 rfl rfl rfl rfl ?_
              refine b_il (pc' := 139) (a := .inl s17) tb_X3_share r_X3_share_137 rfl rfl rfl ?_
              refine jn_in (R := fun (j162 : (Nat → Nat → RN)) => ∀ (s19 M20 : Nat), j162 s19 M20 = some r → SN l g D sl (hh + 1) 0 q q 53 162 [(0, .inr (.inr (.inl 19))), (1, .inl a1), (2, .inl v1), (3, .inl v2), (4, .inl v3), (5, .inl s5), (7, .inl s9), (8, .inl x14), (9, .inl v13), (10, .inl x15)] [.inl s19] M20 (PR r)) h (fun s19 M20 h => ?_) (fun j162 hj162 h => ?_)
              · skip
                refine b_st (pc' := 164) [(12, .inl s19), (0, .inr (.inr (.inl 19))), (1, .inl a1), (2, .inl v1), (3, .inl v2), (4, .inl v3), (5, .inl s5), (7, .inl s9), (8, .inl x14), (9, .inl v13), (10, .inl x15)] tb_X3_share r_X3_share_162 rfl rfl rfl rfl ?_
                refine b_aln (pc' := 165) (a := .inr (.inr (.inl 19))) tb_X3_share r_X3_share_164 rfl rfl rfl ?_
                refine b_gr (pc' := 168) tb_X3_share r_X3_share_165 tF_19_3_11 rfl ?_
                refine b_iln (pc' := 169) (a := .inl a1) tb_X3_share r_X3_share_168 rfl rfl rfl ?_
                obtain ⟨v21, dv21, cv21, h⟩ := lK_in h
                refine b_ia (pc' := 170) tb_X3_share r_X3_share_169 tA_27 dv21 cv21 rfl ?_
                refine b_st (pc' := 172) [(13, .inl v21), (12, .inl s19), (0, .inr (.inr (.inl 19))), (1, .inl a1), (2, .inl v1), (3, .inl v2), (4, .inl v3), (5, .inl s5), (7, .inl s9), (8, .inl x14), (9, .inl v13), (10, .inl x15)] tb_X3_share r_X3_share_170 rfl rfl rfl rfl ?_
                refine b_il (pc' := 174) (a := .inl s19) tb_X3_share r_X3_share_172 rfl rfl rfl ?_
                refine b_ic (pc' := 175) (4294967295) tb_X3_share r_X3_share_174 rfl rfl ?_
                refine jn_in (R := fun (j242 : (Nat → Nat → RN)) => ∀ (x22 M23 : Nat), j242 x22 M23 = some r → SN l g D sl (hh + 1) 0 q q 53 242 [(0, .inr (.inr (.inl 19))), (1, .inl a1), (2, .inl v1), (3, .inl v2), (4, .inl v3), (5, .inl s5), (7, .inl s9), (8, .inl x14), (9, .inl v13), (10, .inl x15), (12, .inl s19), (13, .inl x22)] [] M23 (PR r)) h (fun x22 M23 h => ?_) (fun j242 hj242 h => ?_)
                · skip
                  refine b_il (pc' := 244) (a := .inl s19) tb_X3_share r_X3_share_242 rfl rfl rfl ?_
                  refine b_ic (pc' := 245) (4294967295) tb_X3_share r_X3_share_244 rfl rfl ?_
                  refine jn_in (R := fun (j272 : ( Nat → RN)) => ∀ (M24 : Nat), j272 M24 = some r → SN l g D sl (hh + 1) 0 q q 53 272 [(0, .inr (.inr (.inl 19))), (1, .inl a1), (2, .inl v1), (3, .inl v2), (4, .inl v3), (5, .inl s5), (7, .inl s9), (8, .inl x14), (9, .inl v13), (10, .inl x15)] [] M24 (PR r)) h (fun M24 h => ?_) (fun j272 hj272 h => ?_)
                  · skip
                    refine b_il (pc' := 274) (a := .inl v3) tb_X3_share r_X3_share_272 rfl rfl rfl ?_
                    refine b_il (pc' := 276) (a := .inl x14) tb_X3_share r_X3_share_274 rfl rfl rfl ?_
                    refine b_ic (pc' := 277) (4294967295) tb_X3_share r_X3_share_276 rfl rfl ?_
                    refine b_xor (pc' := 278) tb_X3_share r_X3_share_277 rfl ?_
                    refine b_and (pc' := 279) tb_X3_share r_X3_share_278 rfl ?_
                    obtain ⟨v25, ev25, h⟩ := fK_v h
                    rw [ev25]
                    obtain ⟨v27, M26, ov27, h⟩ := cI_in h
                    refine b_sI (pc' := 282) tb_X3_share r_X3_share_279 tb_J6_lowestOneBit_0f7a4 mo_J6_lowestOneBit_0f7a4 (by decide) rfl rfl ov27 (fun r hr => snd_J6_lowestOneBit_0f7a4 hr) (Nat.le_trans (by decide) (Nat.le_trans hb (by omega))) rfl rfl rfl ?_
                    refine b_st (pc' := 284) [(14, .inl v27), (0, .inr (.inr (.inl 19))), (1, .inl a1), (2, .inl v1), (3, .inl v2), (4, .inl v3), (5, .inl s5), (7, .inl s9), (8, .inl x14), (9, .inl v13), (10, .inl x15)] tb_X3_share r_X3_share_282 rfl rfl rfl rfl ?_
                    refine b_il (pc' := 286) (a := .inl s5) tb_X3_share r_X3_share_284 rfl rfl rfl ?_
                    refine jn_in (R := fun (j305 : (Nat → Nat → RN)) => ∀ (s28 M29 : Nat), j305 s28 M29 = some r → SN l g D sl (hh + 1) 0 q q 53 305 [(0, .inr (.inr (.inl 19))), (1, .inl a1), (2, .inl v1), (3, .inl v2), (4, .inl v3), (5, .inl s5), (7, .inl s9), (9, .inl v13), (10, .inl x15)] [.inl s28] M29 (PR r)) h (fun s28 M29 h => ?_) (fun j305 hj305 h => ?_)
                    · skip
                      refine b_st (pc' := 307) [(8, .inl s28), (0, .inr (.inr (.inl 19))), (1, .inl a1), (2, .inl v1), (3, .inl v2), (4, .inl v3), (5, .inl s5), (7, .inl s9), (9, .inl v13), (10, .inl x15)] tb_X3_share r_X3_share_305 rfl rfl rfl rfl ?_
                      refine b_inc (pc' := 310) (v := x15) (n := 1) [(10, .inl (oAdd x15 1)), (8, .inl s28), (0, .inr (.inr (.inl 19))), (1, .inl a1), (2, .inl v1), (3, .inl v2), (4, .inl v3), (5, .inl s5), (7, .inl s9), (9, .inl v13)] tb_X3_share r_X3_share_307 rfl rfl rfl rfl rfl ?_
                      obtain ⟨v30, ev30, h⟩ := fK_v h
                      rw [ev30]
                      refine b_goto (pc' := 98) tb_X3_share r_X3_share_310 rfl ?_
                      refine b_sub9 [(0, .inr (.inr (.inl 19))), (1, .inl a1), (2, .inl v1), (3, .inl v2), (4, .inl v3), (5, .inl s5), (7, .inl s9), (8, .inl s28), (9, .inl v13), (10, .inl v30)] ⟨rfl, rfl, rfl, rfl, rfl, rfl, rfl, rfl, rfl, rfl, trivial⟩ ?_
                      exact hj98 _ _ _ h
                    rcases bK_in h with ⟨c1, h⟩ | ⟨c1, h⟩
                    · refine b_ifT (t := 297) tb_X3_share r_X3_share_286 rfl ((zEq_c _).symm.trans c1) ?_
                      refine b_il (pc' := 299) (a := .inl x14) tb_X3_share r_X3_share_297 rfl rfl rfl ?_
                      refine b_il (pc' := 301) (a := .inl v3) tb_X3_share r_X3_share_299 rfl rfl rfl ?_
                      refine b_sub (pc' := 302) tb_X3_share r_X3_share_301 rfl ?_
                      refine b_il (pc' := 304) (a := .inl v3) tb_X3_share r_X3_share_302 rfl rfl rfl ?_
                      refine b_and (pc' := 305) tb_X3_share r_X3_share_304 rfl ?_
                      obtain ⟨v31, ev31, h⟩ := fK_v h
                      rw [ev31]
                      refine b_sub9 [(0, .inr (.inr (.inl 19))), (1, .inl a1), (2, .inl v1), (3, .inl v2), (4, .inl v3), (5, .inl s5), (7, .inl s9), (9, .inl v13), (10, .inl x15)] ⟨rfl, rfl, rfl, rfl, rfl, rfl, rfl, rfl, rfl, trivial⟩ ?_
                      exact hj305 _ _ h
                    · refine b_ifF (t := 297) (pc' := 289) tb_X3_share r_X3_share_286 rfl ((zEq_c _).symm.trans c1) rfl ?_
                      refine b_il (pc' := 291) (a := .inl x14) tb_X3_share r_X3_share_289 rfl rfl rfl ?_
                      refine b_il (pc' := 293) (a := .inl v27) tb_X3_share r_X3_share_291 rfl rfl rfl ?_
                      refine b_or (pc' := 294) tb_X3_share r_X3_share_293 rfl ?_
                      refine b_goto (pc' := 305) tb_X3_share r_X3_share_294 rfl ?_
                      obtain ⟨v32, ev32, h⟩ := fK_v h
                      rw [ev32]
                      refine b_sub9 [(0, .inr (.inr (.inl 19))), (1, .inl a1), (2, .inl v1), (3, .inl v2), (4, .inl v3), (5, .inl s5), (7, .inl s9), (9, .inl v13), (10, .inl x15)] ⟨rfl, rfl, rfl, rfl, rfl, rfl, rfl, rfl, rfl, trivial⟩ ?_
                      exact hj305 _ _ h
                  rcases bK_in h with ⟨c1, h⟩ | ⟨c1, h⟩
                  · refine b_icT (t := 272) tb_X3_share r_X3_share_245 rfl ((nEq_c _ _).symm.trans c1) ?_
                    refine b_sub9 [(0, .inr (.inr (.inl 19))), (1, .inl a1), (2, .inl v1), (3, .inl v2), (4, .inl v3), (5, .inl s5), (7, .inl s9), (8, .inl x14), (9, .inl v13), (10, .inl x15)] ⟨rfl, rfl, rfl, rfl, rfl, rfl, rfl, rfl, rfl, rfl, trivial⟩ ?_
                    exact hj272 _ h
                  · refine b_icF (t := 272) (pc' := 248) tb_X3_share r_X3_share_245 rfl ((nEq_c _ _).symm.trans c1) rfl ?_
                    refine b_aln (pc' := 249) (a := .inr (.inr (.inl 19))) tb_X3_share r_X3_share_248 rfl rfl rfl ?_
                    refine b_aln (pc' := 250) (a := .inr (.inr (.inl 19))) tb_X3_share r_X3_share_249 rfl rfl rfl ?_
                    refine b_aln (pc' := 251) (a := .inr (.inr (.inl 19))) tb_X3_share r_X3_share_250 rfl rfl rfl ?_
                    refine b_gr (pc' := 254) tb_X3_share r_X3_share_251 tF_19_3_6 rfl ?_
                    refine b_iln (pc' := 255) (a := .inl a1) tb_X3_share r_X3_share_254 rfl rfl rfl ?_
                    obtain ⟨v33, dv33, cv33, h⟩ := lK_in h
                    refine b_ia (pc' := 256) tb_X3_share r_X3_share_255 tA_22 dv33 cv33 rfl ?_
                    refine b_il (pc' := 258) (a := .inl s19) tb_X3_share r_X3_share_256 rfl rfl rfl ?_
                    refine b_il (pc' := 260) (a := .inl x22) tb_X3_share r_X3_share_258 rfl rfl rfl ?_
                    obtain ⟨v35, M34, ov35, h⟩ := cI_in h
                    refine b_vI (pc' := 263) tb_X3_share r_X3_share_260 tb_X3_addDuty mo_X3_addDuty (by decide) rfl rfl ov35 (fun r hr => snd_X3_addDuty hr) (Nat.le_trans (by decide) (Nat.le_trans hb (by omega))) rfl rfl rfl ?_
                    obtain ⟨M36, oM36, h⟩ := cV_in h
                    refine b_vV (pc' := 266) tb_X3_share r_X3_share_263 tb_X3_solve mo_X3_solve (by decide) rfl rfl oM36 (fun r hr => hsv _ _ _ hr) (by omega) rfl rfl rfl ?_
                    refine b_aln (pc' := 267) (a := .inr (.inr (.inl 19))) tb_X3_share r_X3_share_266 rfl rfl rfl ?_
                    refine b_il (pc' := 269) (a := .inl v13) tb_X3_share r_X3_share_267 rfl rfl rfl ?_
                    obtain ⟨M37, cM37, h⟩ := pK_in h
                    refine b_pi (pc' := 272) tb_X3_share r_X3_share_269 rfl tF_19_3_12 cM37 rfl ?_
                    refine b_sub9 [(0, .inr (.inr (.inl 19))), (1, .inl a1), (2, .inl v1), (3, .inl v2), (4, .inl v3), (5, .inl s5), (7, .inl s9), (8, .inl x14), (9, .inl v13), (10, .inl x15)] ⟨rfl, rfl, rfl, rfl, rfl, rfl, rfl, rfl, rfl, rfl, trivial⟩ ?_
                    exact hj272 _ h
                rcases bK_in h with ⟨c1, h⟩ | ⟨c1, h⟩
                · refine b_icT (t := 242) tb_X3_share r_X3_share_175 rfl ((nEq_c _ _).symm.trans c1) ?_
                  refine b_sub9 [(0, .inr (.inr (.inl 19))), (1, .inl a1), (2, .inl v1), (3, .inl v2), (4, .inl v3), (5, .inl s5), (7, .inl s9), (8, .inl x14), (9, .inl v13), (10, .inl x15), (12, .inl s19), (13, .inl v21)] ⟨rfl, rfl, rfl, rfl, rfl, rfl, rfl, rfl, rfl, rfl, rfl, rfl, trivial⟩ ?_
                  exact hj242 _ _ h
                · refine b_icF (t := 242) (pc' := 178) tb_X3_share r_X3_share_175 rfl ((nEq_c _ _).symm.trans c1) rfl ?_
                  refine b_iln (pc' := 179) (a := .inl v2) tb_X3_share r_X3_share_178 rfl rfl rfl ?_
                  refine b_ic (pc' := 180) (1) tb_X3_share r_X3_share_179 rfl rfl ?_
                  rcases bK_in h with ⟨c1, h⟩ | ⟨c1, h⟩
                  · refine b_icT (t := 242) tb_X3_share r_X3_share_180 rfl ((nLe_c _ _).symm.trans c1) ?_
                    refine b_sub9 [(0, .inr (.inr (.inl 19))), (1, .inl a1), (2, .inl v1), (3, .inl v2), (4, .inl v3), (5, .inl s5), (7, .inl s9), (8, .inl x14), (9, .inl v13), (10, .inl x15), (12, .inl s19), (13, .inl v21)] ⟨rfl, rfl, rfl, rfl, rfl, rfl, rfl, rfl, rfl, rfl, rfl, rfl, trivial⟩ ?_
                    exact hj242 _ _ h
                  · refine b_icF (t := 242) (pc' := 183) tb_X3_share r_X3_share_180 rfl ((nLe_c _ _).symm.trans c1) rfl ?_
                    refine b_aln (pc' := 184) (a := .inr (.inr (.inl 19))) tb_X3_share r_X3_share_183 rfl rfl rfl ?_
                    refine b_aln (pc' := 185) (a := .inr (.inr (.inl 19))) tb_X3_share r_X3_share_184 rfl rfl rfl ?_
                    refine b_gr (pc' := 188) tb_X3_share r_X3_share_185 tF_19_3_0 rfl ?_
                    refine b_aln (pc' := 189) (a := .inr (.inr (.inl 19))) tb_X3_share r_X3_share_188 rfl rfl rfl ?_
                    refine b_gr (pc' := 192) tb_X3_share r_X3_share_189 tF_19_3_6 rfl ?_
                    refine b_iln (pc' := 193) (a := .inl a1) tb_X3_share r_X3_share_192 rfl rfl rfl ?_
                    obtain ⟨v38, dv38, cv38, h⟩ := lK_in h
                    refine b_ia (pc' := 194) tb_X3_share r_X3_share_193 tA_22 dv38 cv38 rfl ?_
                    obtain ⟨v40, M39, ov40, h⟩ := cI_in h
                    refine b_vI (pc' := 197) tb_X3_share r_X3_share_194 tb_X8_end mo_X8_end (by decide) rfl rfl ov40 (fun r hr => snd_X8_end hr) (Nat.le_trans (by decide) (Nat.le_trans hb (by omega))) rfl rfl rfl ?_
                    refine b_aln (pc' := 198) (a := .inr (.inr (.inl 19))) tb_X3_share r_X3_share_197 rfl rfl rfl ?_
                    refine b_gr (pc' := 201) tb_X3_share r_X3_share_198 tF_19_3_7 rfl ?_
                    refine b_iln (pc' := 202) (a := .inl a1) tb_X3_share r_X3_share_201 rfl rfl rfl ?_
                    obtain ⟨v41, dv41, cv41, h⟩ := lK_in h
                    refine b_ia (pc' := 203) tb_X3_share r_X3_share_202 tA_23 dv41 cv41 rfl ?_
                    refine b_il (pc' := 205) (a := .inl v21) tb_X3_share r_X3_share_203 rfl rfl rfl ?_
                    obtain ⟨v43, M42, ov43, h⟩ := cI_in h
                    refine b_vI (pc' := 208) tb_X3_share r_X3_share_205 tb_X3_addDuty mo_X3_addDuty (by decide) rfl rfl ov43 (fun r hr => snd_X3_addDuty hr) (Nat.le_trans (by decide) (Nat.le_trans hb (by omega))) rfl rfl rfl ?_
                    refine b_st (pc' := 210) [(13, .inl v43), (12, .inl s19), (0, .inr (.inr (.inl 19))), (1, .inl a1), (2, .inl v1), (3, .inl v2), (4, .inl v3), (5, .inl s5), (7, .inl s9), (8, .inl x14), (9, .inl v13), (10, .inl x15)] tb_X3_share r_X3_share_208 rfl rfl rfl rfl ?_
                    refine b_aln (pc' := 211) (a := .inr (.inr (.inl 19))) tb_X3_share r_X3_share_210 rfl rfl rfl ?_
                    refine b_gr (pc' := 214) tb_X3_share r_X3_share_211 tF_19_3_8 rfl ?_
                    refine b_il (pc' := 216) (a := .inl v43) tb_X3_share r_X3_share_214 rfl rfl rfl ?_
                    refine b_iln (pc' := 217) (a := .inl v1) tb_X3_share r_X3_share_216 rfl rfl rfl ?_
                    obtain ⟨M44, dM44, cM44, h⟩ := sK_in h
                    refine b_is (pc' := 218) tb_X3_share r_X3_share_217 tA_24 dM44 cM44 rfl ?_
                    refine b_aln (pc' := 219) (a := .inr (.inr (.inl 19))) tb_X3_share r_X3_share_218 rfl rfl rfl ?_
                    refine b_gr (pc' := 222) tb_X3_share r_X3_share_219 tF_19_3_9 rfl ?_
                    refine b_il (pc' := 224) (a := .inl v43) tb_X3_share r_X3_share_222 rfl rfl rfl ?_
                    refine b_iln (pc' := 225) (a := .inl v2) tb_X3_share r_X3_share_224 rfl rfl rfl ?_
                    refine b_ic (pc' := 226) (1) tb_X3_share r_X3_share_225 rfl rfl ?_
                    refine b_sub (pc' := 227) tb_X3_share r_X3_share_226 rfl ?_
                    obtain ⟨M45, dM45, cM45, h⟩ := sK_in h
                    refine b_is (pc' := 228) tb_X3_share r_X3_share_227 tA_25 dM45 cM45 rfl ?_
                    refine b_aln (pc' := 229) (a := .inr (.inr (.inl 19))) tb_X3_share r_X3_share_228 rfl rfl rfl ?_
                    refine b_gr (pc' := 232) tb_X3_share r_X3_share_229 tF_19_3_10 rfl ?_
                    refine b_il (pc' := 234) (a := .inl v43) tb_X3_share r_X3_share_232 rfl rfl rfl ?_
                    refine b_il (pc' := 236) (a := .inl v3) tb_X3_share r_X3_share_234 rfl rfl rfl ?_
                    refine b_il (pc' := 238) (a := .inl x14) tb_X3_share r_X3_share_236 rfl rfl rfl ?_
                    refine b_ic (pc' := 239) (4294967295) tb_X3_share r_X3_share_238 rfl rfl ?_
                    refine b_xor (pc' := 240) tb_X3_share r_X3_share_239 rfl ?_
                    refine b_and (pc' := 241) tb_X3_share r_X3_share_240 rfl ?_
                    obtain ⟨M46, dM46, cM46, h⟩ := sK_in h
                    refine b_is (pc' := 242) tb_X3_share r_X3_share_241 tA_26 dM46 cM46 rfl ?_
                    refine b_sub9 [(0, .inr (.inr (.inl 19))), (1, .inl a1), (2, .inl v1), (3, .inl v2), (4, .inl v3), (5, .inl s5), (7, .inl s9), (8, .inl x14), (9, .inl v13), (10, .inl x15), (12, .inl s19), (13, .inl v43)] ⟨rfl, rfl, rfl, rfl, rfl, rfl, rfl, rfl, rfl, rfl, rfl, rfl, trivial⟩ ?_
                    exact hj242 _ _ h
              rcases bK_in h with ⟨c1, h⟩ | ⟨c1, h⟩
              · refine b_ifT (t := 146) tb_X3_share r_X3_share_139 rfl ((zEq_c _).symm.trans c1) ?_
                refine b_aln (pc' := 147) (a := .inr (.inr (.inl 19))) tb_X3_share r_X3_share_146 rfl rfl rfl ?_
                refine b_gr (pc' := 150) tb_X3_share r_X3_share_147 tF_19_3_2 rfl ?_
                refine b_aln (pc' := 151) (a := .inr (.inr (.inl 19))) tb_X3_share r_X3_share_150 rfl rfl rfl ?_
                refine b_gr (pc' := 154) tb_X3_share r_X3_share_151 tF_19_3_7 rfl ?_
                refine b_iln (pc' := 155) (a := .inl a1) tb_X3_share r_X3_share_154 rfl rfl rfl ?_
                obtain ⟨v47, dv47, cv47, h⟩ := lK_in h
                refine b_ia (pc' := 156) tb_X3_share r_X3_share_155 tA_23 dv47 cv47 rfl ?_
                refine b_iln (pc' := 157) (a := .inl v1) tb_X3_share r_X3_share_156 rfl rfl rfl ?_
                refine b_il (pc' := 159) (a := .inl x14) tb_X3_share r_X3_share_157 rfl rfl rfl ?_
                obtain ⟨v49, M48, ov49, h⟩ := cI_in h
                refine b_vI (pc' := 162) tb_X3_share r_X3_share_159 tb_X4_partFor mo_X4_partFor (by decide) rfl rfl ov49 (fun r hr => snd_X4_partFor hr) (Nat.le_trans (by decide) (Nat.le_trans hb (by omega))) rfl rfl rfl ?_
                refine b_sub9 [(0, .inr (.inr (.inl 19))), (1, .inl a1), (2, .inl v1), (3, .inl v2), (4, .inl v3), (5, .inl s5), (7, .inl s9), (8, .inl x14), (9, .inl v13), (10, .inl x15)] ⟨rfl, rfl, rfl, rfl, rfl, rfl, rfl, rfl, rfl, rfl, trivial⟩ ?_
                exact hj162 _ _ h
              · refine b_ifF (t := 146) (pc' := 142) tb_X3_share r_X3_share_139 rfl ((zEq_c _).symm.trans c1) rfl ?_
                refine b_ic (pc' := 143) (4294967295) tb_X3_share r_X3_share_142 rfl rfl ?_
                refine b_goto (pc' := 162) tb_X3_share r_X3_share_143 rfl ?_
                refine b_sub9 [(0, .inr (.inr (.inl 19))), (1, .inl a1), (2, .inl v1), (3, .inl v2), (4, .inl v3), (5, .inl s5), (7, .inl s9), (8, .inl x14), (9, .inl v13), (10, .inl x15)] ⟨rfl, rfl, rfl, rfl, rfl, rfl, rfl, rfl, rfl, rfl, trivial⟩ ?_
                exact hj162 _ _ h
            refine jn_in (R := fun (j134 : ( Nat → RN)) => ∀ (M50 : Nat), j134 M50 = some r → SN l g D sl (hh + 1) 0 q q 53 134 [(0, .inr (.inr (.inl 19))), (1, .inl a1), (2, .inl v1), (3, .inl v2), (4, .inl v3), (5, .inl s5), (7, .inl s9), (8, .inl x14), (9, .inl v13), (10, .inl x15)] [] M50 (PR r)) h (fun M50 h => ?_) (fun j134 hj134 h => ?_)
            · skip
              refine b_ic (pc' := 135) (0) tb_X3_share r_X3_share_134 rfl rfl ?_
              exact hj135 _ _ h
            rcases bK_in h with ⟨c1, h⟩ | ⟨c1, h⟩
            · refine b_ifT (t := 134) tb_X3_share r_X3_share_107 rfl ((zNe_c _).symm.trans c1) ?_
              exact hj134 _ h
            · refine b_ifF (t := 134) (pc' := 110) tb_X3_share r_X3_share_107 rfl ((zNe_c _).symm.trans c1) rfl ?_
              refine b_aln (pc' := 111) (a := .inr (.inr (.inl 19))) tb_X3_share r_X3_share_110 rfl rfl rfl ?_
              refine b_gr (pc' := 114) tb_X3_share r_X3_share_111 tF_19_3_2 rfl ?_
              refine b_aln (pc' := 115) (a := .inr (.inr (.inl 19))) tb_X3_share r_X3_share_114 rfl rfl rfl ?_
              refine b_gr (pc' := 118) tb_X3_share r_X3_share_115 tF_19_3_7 rfl ?_
              refine b_iln (pc' := 119) (a := .inl a1) tb_X3_share r_X3_share_118 rfl rfl rfl ?_
              obtain ⟨v51, dv51, cv51, h⟩ := lK_in h
              refine b_ia (pc' := 120) tb_X3_share r_X3_share_119 tA_23 dv51 cv51 rfl ?_
              refine b_il (pc' := 122) (a := .inl x14) tb_X3_share r_X3_share_120 rfl rfl rfl ?_
              refine b_il (pc' := 124) (a := .inl v3) tb_X3_share r_X3_share_122 rfl rfl rfl ?_
              obtain ⟨v53, M52, ov53, h⟩ := cI_in h
              refine b_vI (pc' := 127) tb_X3_share r_X3_share_124 tb_X4_passesOver mo_X4_passesOver (by decide) rfl rfl ov53 (fun r hr => snd_X4_passesOver hr) (Nat.le_trans (by decide) (Nat.le_trans hb (by omega))) rfl rfl rfl ?_
              rcases bK_in h with ⟨c1, h⟩ | ⟨c1, h⟩
              · refine b_ifT (t := 134) tb_X3_share r_X3_share_127 rfl ((zEq_c _).symm.trans c1) ?_
                exact hj134 _ h
              · refine b_ifF (t := 134) (pc' := 130) tb_X3_share r_X3_share_127 rfl ((zEq_c _).symm.trans c1) rfl ?_
                refine b_ic (pc' := 131) (1) tb_X3_share r_X3_share_130 rfl rfl ?_
                refine b_goto (pc' := 135) tb_X3_share r_X3_share_131 rfl ?_
                exact hj135 _ _ h
        refine b_sub9 [(0, .inr (.inr (.inl 19))), (1, .inl a1), (2, .inl v1), (3, .inl v2), (4, .inl v3), (5, .inl s5), (7, .inl s9), (8, .inl s11), (9, .inl v13), (10, .inl 0)] ⟨rfl, rfl, rfl, rfl, rfl, rfl, rfl, rfl, rfl, rfl, trivial⟩ ?_
        exact hj98 _ _ _ h
      rcases bK_in h with ⟨c1, h⟩ | ⟨c1, h⟩
      · refine b_icT (t := 86) tb_X3_share r_X3_share_78 rfl ((nNe_c _ _).symm.trans c1) ?_
        refine b_ic (pc' := 87) (0) tb_X3_share r_X3_share_86 rfl rfl ?_
        refine b_sub9 [(0, .inr (.inr (.inl 19))), (1, .inl a1), (2, .inl v1), (3, .inl v2), (4, .inl v3), (5, .inl s5), (7, .inl s9)] ⟨rfl, rfl, rfl, rfl, rfl, rfl, rfl, trivial⟩ ?_
        exact hj87 _ _ h
      · refine b_icF (t := 86) (pc' := 81) tb_X3_share r_X3_share_78 rfl ((nNe_c _ _).symm.trans c1) rfl ?_
        refine b_il (pc' := 83) (a := .inl v3) tb_X3_share r_X3_share_81 rfl rfl rfl ?_
        refine b_goto (pc' := 87) tb_X3_share r_X3_share_83 rfl ?_
        refine b_sub9 [(0, .inr (.inr (.inl 19))), (1, .inl a1), (2, .inl v1), (3, .inl v2), (4, .inl v3), (5, .inl s5), (7, .inl s9)] ⟨rfl, rfl, rfl, rfl, rfl, rfl, rfl, trivial⟩ ?_
        exact hj87 _ _ h
    rcases bK_in h with ⟨c1, h⟩ | ⟨c1, h⟩
    · refine b_icT (t := 58) tb_X3_share r_X3_share_51 rfl ((nNe_c _ _).symm.trans c1) ?_
      refine b_il (pc' := 60) (a := .inl s5) tb_X3_share r_X3_share_58 rfl rfl rfl ?_
      rcases bK_in h with ⟨c1, h⟩ | ⟨c1, h⟩
      · refine b_ifT (t := 70) tb_X3_share r_X3_share_60 rfl ((zEq_c _).symm.trans c1) ?_
        refine b_ic (pc' := 71) (1) tb_X3_share r_X3_share_70 rfl rfl ?_
        refine b_il (pc' := 73) (a := .inl v8) tb_X3_share r_X3_share_71 rfl rfl rfl ?_
        refine b_shl (pc' := 74) tb_X3_share r_X3_share_73 rfl ?_
        obtain ⟨v54, ev54, h⟩ := fK_v h
        rw [ev54]
        refine b_sub9 [(0, .inr (.inr (.inl 19))), (1, .inl a1), (2, .inl v1), (3, .inl v2), (4, .inl v3), (5, .inl s5)] ⟨rfl, rfl, rfl, rfl, rfl, rfl, trivial⟩ ?_
        exact hj74 _ _ h
      · refine b_ifF (t := 70) (pc' := 63) tb_X3_share r_X3_share_60 rfl ((zEq_c _).symm.trans c1) rfl ?_
        refine b_il (pc' := 65) (a := .inl v8) tb_X3_share r_X3_share_63 rfl rfl rfl ?_
        refine b_ic (pc' := 66) (1) tb_X3_share r_X3_share_65 rfl rfl ?_
        refine b_add (pc' := 67) tb_X3_share r_X3_share_66 rfl ?_
        refine b_goto (pc' := 74) tb_X3_share r_X3_share_67 rfl ?_
        obtain ⟨v55, ev55, h⟩ := fK_v h
        rw [ev55]
        refine b_sub9 [(0, .inr (.inr (.inl 19))), (1, .inl a1), (2, .inl v1), (3, .inl v2), (4, .inl v3), (5, .inl s5)] ⟨rfl, rfl, rfl, rfl, rfl, rfl, trivial⟩ ?_
        exact hj74 _ _ h
    · refine b_icF (t := 58) (pc' := 54) tb_X3_share r_X3_share_51 rfl ((nNe_c _ _).symm.trans c1) rfl ?_
      refine b_ic (pc' := 55) (1) tb_X3_share r_X3_share_54 rfl rfl ?_
      refine b_goto (pc' := 74) tb_X3_share r_X3_share_55 rfl ?_
      refine b_sub9 [(0, .inr (.inr (.inl 19))), (1, .inl a1), (2, .inl v1), (3, .inl v2), (4, .inl v3), (5, .inl s5)] ⟨rfl, rfl, rfl, rfl, rfl, rfl, trivial⟩ ?_
      exact hj74 _ _ h
  rcases bK_in h with ⟨c1, h⟩ | ⟨c1, h⟩
  · refine b_icT (t := 39) tb_X3_share r_X3_share_32 rfl ((nNe_c _ _).symm.trans c1) ?_
    refine b_ic (pc' := 40) (0) tb_X3_share r_X3_share_39 rfl rfl ?_
    refine b_sub9 [(0, .inr (.inr (.inl 19))), (1, .inl a1), (2, .inl v1), (3, .inl v2), (4, .inl v3)] ⟨rfl, rfl, rfl, rfl, rfl, trivial⟩ ?_
    exact hj40 _ _ h
  · refine b_icF (t := 39) (pc' := 35) tb_X3_share r_X3_share_32 rfl ((nNe_c _ _).symm.trans c1) rfl ?_
    refine b_ic (pc' := 36) (1) tb_X3_share r_X3_share_35 rfl rfl ?_
    refine b_goto (pc' := 40) tb_X3_share r_X3_share_36 rfl ?_
    refine b_sub9 [(0, .inr (.inr (.inl 19))), (1, .inl a1), (2, .inl v1), (3, .inl v2), (4, .inl v3)] ⟨rfl, rfl, rfl, rfl, rfl, trivial⟩ ?_
    exact hj40 _ _ h
noncomputable def m_X3_noteMatch (M0 : Nat) : RN :=
  lp (fun _ _ _ => none) (fun (j4 : (Nat → Nat →  Nat → RN)) => fun (x1 : Nat) (x2 : Nat) (M3 : Nat) => bK (nGe x2 10) (rK M3 1256 (fun v4 => rK M3 1256 (fun v5 => rK M3 1258 (fun v6 => fK (oAdd v5 v6) (fun v7 => lp (fun _ _ _ => none) (fun (j74 : (Nat → Nat →  Nat → RN)) => fun (x8 : Nat) (x9 : Nat) (M10 : Nat) => bK (nGe x8 x9) (rK M10 1256 (fun v11 => rK M10 1258 (fun v12 => fK (oAdd v11 v12) (fun v13 => bK (nGe v13 27460) none (jn (fun (M14 : Nat) => fK (oSub v13 x8) (fun v15 => fK (oAdd x8 1) (fun v16 => cpK M14 281 780 7500 7656 x8 v16 v15 (fun M17 => sK2 M17 281 780 7500 7656 x8 x1 (fun M18 => rK M18 1258 (fun v19 => pK M18 1258 (oAdd v19 1) (fun M20 => some (1, M20)))))))) (fun (j175 : ( Nat → RN)) => bK (nGe x8 v13) (j175 M10) (lK2 M10 281 780 7500 7656 x8 (fun v21 => bK (nNe v21 x1) (j175 M10) none)))))))) (fK (oAdd x8 x9) (fun v22 => dvK Nat.div v22 2 (fun v23 => lK2 M10 281 780 7500 7656 v23 (fun v24 => jn (fun (s25 : Nat) (M26 : Nat) => jn (fun (s27 : Nat) (M28 : Nat) => jn (fun (s29 : Nat) (M30 : Nat) => j74 s27 s29 M30) (fun (j132 : (Nat →  Nat → RN)) => bK (zEq s25) (j132 v23 M28) (j132 x9 M28))) (fun (j120 : (Nat →  Nat → RN)) => bK (zEq s25) (j120 x8 M26) (fK (oAdd v23 1) (fun v31 => j120 v31 M26)))) (fun (j105 : (Nat →  Nat → RN)) => bK (nLe x1 v24) (j105 0 M10) (j105 1 M10))))))) (fun (j74 : (Nat → Nat →  Nat → RN)) => j74 v4 v7 M3)))))) (rK M3 1254 (fun v32 => hK v32 x2 (fun v33 => jn (fun (x34 : Nat) (M35 : Nat) => fK (oAdd x2 1) (fun v36 => j4 x34 v36 M35)) (fun (j53 : (Nat →  Nat → RN)) => bK (nNe (oAnd v33 1) 1) (j53 x1 M3) (lK M3 1291 20 x2 (fun v37 => bK (nEq v37 4294967295) (j53 x1 M3) (lK M3 1291 20 x2 (fun v38 => lK M3 1568 32 v38 (fun v39 => fK (oAdd (oMul x1 256) v39) (fun v40 => j53 v40 M3))))))))))) (fun (j4 : (Nat → Nat →  Nat → RN)) => j4 0 0 M0)
set_option maxRecDepth 100000 in
theorem snd_X3_noteMatch {l : Launch} {g : GV} {D : va_G} {sl q : Nat} {M0 : Nat} {r : Nat × Nat} (h : m_X3_noteMatch M0 = some r) : SN l g D sl 1 0 q q 54 0 [(0, .inr (.inr (.inl 19)))] [] M0 (PR r) := by
  unfold m_X3_noteMatch at h
  refine b_ic (pc' := 1) (0) tb_X3_noteMatch r_X3_noteMatch_0 rfl rfl ?_
  refine b_stn (pc' := 2) [(1, .inl 0), (0, .inr (.inr (.inl 19)))] tb_X3_noteMatch r_X3_noteMatch_1 rfl rfl rfl rfl ?_
  refine b_ic (pc' := 3) (0) tb_X3_noteMatch r_X3_noteMatch_2 rfl rfl ?_
  refine b_stn (pc' := 4) [(2, .inl 0), (1, .inl 0), (0, .inr (.inr (.inl 19)))] tb_X3_noteMatch r_X3_noteMatch_3 rfl rfl rfl rfl ?_
  refine lp_in (R := fun (j4 : (Nat → Nat → Nat → RN)) => ∀ (x1 x2 M3 : Nat), j4 x1 x2 M3 = some r → SN l g D sl 1 0 q q 54 4 [(0, .inr (.inr (.inl 19))), (1, .inl x1), (2, .inl x2)] [] M3 (PR r)) h (fun _ _ _ h => by cases h) (fun j4 hj4 => ?_) (fun j4 hj4 h => ?_)
  · intro x1 x2 M3 h
    refine b_iln (pc' := 5) (a := .inl x2) tb_X3_noteMatch r_X3_noteMatch_4 rfl rfl rfl ?_
    refine b_bi (pc' := 7) (10) tb_X3_noteMatch r_X3_noteMatch_5 rfl rfl rfl ?_
    rcases bK_in h with ⟨c1, h⟩ | ⟨c1, h⟩
    · refine b_icT (t := 59) tb_X3_noteMatch r_X3_noteMatch_7 rfl ((nGe_c _ _).symm.trans c1) ?_
      refine b_aln (pc' := 60) (a := .inr (.inr (.inl 19))) tb_X3_noteMatch r_X3_noteMatch_59 rfl rfl rfl ?_
      obtain ⟨v4, cv4, h⟩ := rK_in h
      refine b_gi (pc' := 63) tb_X3_noteMatch r_X3_noteMatch_60 tF_19_3_13 cv4 rfl ?_
      refine b_stn (pc' := 64) [(2, .inl v4), (0, .inr (.inr (.inl 19))), (1, .inl x1)] tb_X3_noteMatch r_X3_noteMatch_63 rfl rfl rfl rfl ?_
      refine b_aln (pc' := 65) (a := .inr (.inr (.inl 19))) tb_X3_noteMatch r_X3_noteMatch_64 rfl rfl rfl ?_
      obtain ⟨v5, cv5, h⟩ := rK_in h
      refine b_gi (pc' := 68) tb_X3_noteMatch r_X3_noteMatch_65 tF_19_3_13 cv5 rfl ?_
      refine b_aln (pc' := 69) (a := .inr (.inr (.inl 19))) tb_X3_noteMatch r_X3_noteMatch_68 rfl rfl rfl ?_
      obtain ⟨v6, cv6, h⟩ := rK_in h
      refine b_gi (pc' := 72) tb_X3_noteMatch r_X3_noteMatch_69 tF_19_3_15 cv6 rfl ?_
      refine b_add (pc' := 73) tb_X3_noteMatch r_X3_noteMatch_72 rfl ?_
      obtain ⟨v7, ev7, h⟩ := fK_v h
      rw [ev7]
      refine b_stn (pc' := 74) [(3, .inl v7), (2, .inl v4), (0, .inr (.inr (.inl 19))), (1, .inl x1)] tb_X3_noteMatch r_X3_noteMatch_73 rfl rfl rfl rfl ?_
      refine lp_in (R := fun (j74 : (Nat → Nat → Nat → RN)) => ∀ (x8 x9 M10 : Nat), j74 x8 x9 M10 = some r → SN l g D sl 1 0 q q 54 74 [(0, .inr (.inr (.inl 19))), (1, .inl x1), (2, .inl x8), (3, .inl x9)] [] M10 (PR r)) h (fun _ _ _ h => by cases h) (fun j74 hj74 => ?_) (fun j74 hj74 h => ?_)
      · intro x8 x9 M10 h
        refine b_iln (pc' := 75) (a := .inl x8) tb_X3_noteMatch r_X3_noteMatch_74 rfl rfl rfl ?_
        refine b_iln (pc' := 76) (a := .inl x9) tb_X3_noteMatch r_X3_noteMatch_75 rfl rfl rfl ?_
        rcases bK_in h with ⟨c1, h⟩ | ⟨c1, h⟩
        · refine b_icT (t := 136) tb_X3_noteMatch r_X3_noteMatch_76 rfl ((nGe_c _ _).symm.trans c1) ?_
          refine b_aln (pc' := 137) (a := .inr (.inr (.inl 19))) tb_X3_noteMatch r_X3_noteMatch_136 rfl rfl rfl ?_
          obtain ⟨v11, cv11, h⟩ := rK_in h
          refine b_gi (pc' := 140) tb_X3_noteMatch r_X3_noteMatch_137 tF_19_3_13 cv11 rfl ?_
          refine b_aln (pc' := 141) (a := .inr (.inr (.inl 19))) tb_X3_noteMatch r_X3_noteMatch_140 rfl rfl rfl ?_
          obtain ⟨v12, cv12, h⟩ := rK_in h
          refine b_gi (pc' := 144) tb_X3_noteMatch r_X3_noteMatch_141 tF_19_3_15 cv12 rfl ?_
          refine b_add (pc' := 145) tb_X3_noteMatch r_X3_noteMatch_144 rfl ?_
          obtain ⟨v13, ev13, h⟩ := fK_v h
          rw [ev13]
          refine b_st (pc' := 147) [(4, .inl v13), (0, .inr (.inr (.inl 19))), (1, .inl x1), (2, .inl x8), (3, .inl x9)] tb_X3_noteMatch r_X3_noteMatch_145 rfl rfl rfl rfl ?_
          refine b_il (pc' := 149) (a := .inl v13) tb_X3_noteMatch r_X3_noteMatch_147 rfl rfl rfl ?_
          refine b_si (pc' := 152) (27460) tb_X3_noteMatch r_X3_noteMatch_149 rfl rfl rfl ?_
          obtain ⟨c1, h⟩ := bK_f h
          refine b_icF (t := 174) (pc' := 155) tb_X3_noteMatch r_X3_noteMatch_152 rfl ((nGe_c _ _).symm.trans c1) rfl ?_
          refine b_iln (pc' := 156) (a := .inl x8) tb_X3_noteMatch r_X3_noteMatch_155 rfl rfl rfl ?_
          refine b_il (pc' := 158) (a := .inl v13) tb_X3_noteMatch r_X3_noteMatch_156 rfl rfl rfl ?_
          refine jn_in (R := fun (j175 : ( Nat → RN)) => ∀ (M14 : Nat), j175 M14 = some r → SN l g D sl 1 0 q q 54 175 [(0, .inr (.inr (.inl 19))), (1, .inl x1), (2, .inl x8), (4, .inl v13)] [] M14 (PR r)) h (fun M14 h => ?_) (fun j175 hj175 h => ?_)
          · skip
            refine b_aln (pc' := 176) (a := .inr (.inr (.inl 19))) tb_X3_noteMatch r_X3_noteMatch_175 rfl rfl rfl ?_
            refine b_gr (pc' := 179) tb_X3_noteMatch r_X3_noteMatch_176 tF_19_3_0 rfl ?_
            refine b_gr (pc' := 182) tb_X3_noteMatch r_X3_noteMatch_179 tF_11_8_1 rfl ?_
            refine b_iln (pc' := 183) (a := .inl x8) tb_X3_noteMatch r_X3_noteMatch_182 rfl rfl rfl ?_
            refine b_aln (pc' := 184) (a := .inr (.inr (.inl 19))) tb_X3_noteMatch r_X3_noteMatch_183 rfl rfl rfl ?_
            refine b_gr (pc' := 187) tb_X3_noteMatch r_X3_noteMatch_184 tF_19_3_0 rfl ?_
            refine b_gr (pc' := 190) tb_X3_noteMatch r_X3_noteMatch_187 tF_11_8_1 rfl ?_
            refine b_iln (pc' := 191) (a := .inl x8) tb_X3_noteMatch r_X3_noteMatch_190 rfl rfl rfl ?_
            refine b_ic (pc' := 192) (1) tb_X3_noteMatch r_X3_noteMatch_191 rfl rfl ?_
            refine b_add (pc' := 193) tb_X3_noteMatch r_X3_noteMatch_192 rfl ?_
            refine b_il (pc' := 195) (a := .inl v13) tb_X3_noteMatch r_X3_noteMatch_193 rfl rfl rfl ?_
            refine b_iln (pc' := 196) (a := .inl x8) tb_X3_noteMatch r_X3_noteMatch_195 rfl rfl rfl ?_
            refine b_sub (pc' := 197) tb_X3_noteMatch r_X3_noteMatch_196 rfl ?_
            obtain ⟨v15, ev15, h⟩ := fK_v h
            rw [ev15]
            obtain ⟨v16, ev16, h⟩ := fK_v h
            rw [ev16]
            obtain ⟨M17, _, _, dM17, fM17, cM17, h⟩ := cpK_in h
            refine b_cp (pc' := 200) tb_X3_noteMatch r_X3_noteMatch_197 tA_12 rfl dM17 fM17 cM17 rfl ?_
            refine b_aln (pc' := 201) (a := .inr (.inr (.inl 19))) tb_X3_noteMatch r_X3_noteMatch_200 rfl rfl rfl ?_
            refine b_gr (pc' := 204) tb_X3_noteMatch r_X3_noteMatch_201 tF_19_3_0 rfl ?_
            refine b_gr (pc' := 207) tb_X3_noteMatch r_X3_noteMatch_204 tF_11_8_1 rfl ?_
            refine b_iln (pc' := 208) (a := .inl x8) tb_X3_noteMatch r_X3_noteMatch_207 rfl rfl rfl ?_
            refine b_iln (pc' := 209) (a := .inl x1) tb_X3_noteMatch r_X3_noteMatch_208 rfl rfl rfl ?_
            obtain ⟨M18, _, dM18, cM18, h⟩ := sK2_in h
            refine b_is2 (pc' := 210) tb_X3_noteMatch r_X3_noteMatch_209 tA_12 dM18 cM18 rfl ?_
            refine b_aln (pc' := 211) (a := .inr (.inr (.inl 19))) tb_X3_noteMatch r_X3_noteMatch_210 rfl rfl rfl ?_
            refine b_dup (pc' := 212) tb_X3_noteMatch r_X3_noteMatch_211 rfl rfl ?_
            obtain ⟨v19, cv19, h⟩ := rK_in h
            refine b_gi (pc' := 215) tb_X3_noteMatch r_X3_noteMatch_212 tF_19_3_15 cv19 rfl ?_
            refine b_ic (pc' := 216) (1) tb_X3_noteMatch r_X3_noteMatch_215 rfl rfl ?_
            refine b_add (pc' := 217) tb_X3_noteMatch r_X3_noteMatch_216 rfl ?_
            obtain ⟨M20, cM20, h⟩ := pK_in h
            refine b_pi (pc' := 220) tb_X3_noteMatch r_X3_noteMatch_217 rfl tF_19_3_15 cM20 rfl ?_
            exact b_vo tb_X3_noteMatch r_X3_noteMatch_220 (sj h).symm
          rcases bK_in h with ⟨c1, h⟩ | ⟨c1, h⟩
          · refine b_icT (t := 175) tb_X3_noteMatch r_X3_noteMatch_158 rfl ((nGe_c _ _).symm.trans c1) ?_
            refine b_sub9 [(0, .inr (.inr (.inl 19))), (1, .inl x1), (2, .inl x8), (4, .inl v13)] ⟨rfl, rfl, rfl, rfl, trivial⟩ ?_
            exact hj175 _ h
          · refine b_icF (t := 175) (pc' := 161) tb_X3_noteMatch r_X3_noteMatch_158 rfl ((nGe_c _ _).symm.trans c1) rfl ?_
            refine b_aln (pc' := 162) (a := .inr (.inr (.inl 19))) tb_X3_noteMatch r_X3_noteMatch_161 rfl rfl rfl ?_
            refine b_gr (pc' := 165) tb_X3_noteMatch r_X3_noteMatch_162 tF_19_3_0 rfl ?_
            refine b_gr (pc' := 168) tb_X3_noteMatch r_X3_noteMatch_165 tF_11_8_1 rfl ?_
            refine b_iln (pc' := 169) (a := .inl x8) tb_X3_noteMatch r_X3_noteMatch_168 rfl rfl rfl ?_
            obtain ⟨v21, _, dv21, cv21, h⟩ := lK2_in h
            refine b_ia2 (pc' := 170) tb_X3_noteMatch r_X3_noteMatch_169 tA_12 dv21 cv21 rfl ?_
            refine b_iln (pc' := 171) (a := .inl x1) tb_X3_noteMatch r_X3_noteMatch_170 rfl rfl rfl ?_
            obtain ⟨c1, h⟩ := bK_t h
            refine b_icT (t := 175) tb_X3_noteMatch r_X3_noteMatch_171 rfl ((nNe_c _ _).symm.trans c1) ?_
            refine b_sub9 [(0, .inr (.inr (.inl 19))), (1, .inl x1), (2, .inl x8), (4, .inl v13)] ⟨rfl, rfl, rfl, rfl, trivial⟩ ?_
            exact hj175 _ h
        · refine b_icF (t := 136) (pc' := 79) tb_X3_noteMatch r_X3_noteMatch_76 rfl ((nGe_c _ _).symm.trans c1) rfl ?_
          refine b_iln (pc' := 80) (a := .inl x8) tb_X3_noteMatch r_X3_noteMatch_79 rfl rfl rfl ?_
          refine b_iln (pc' := 81) (a := .inl x9) tb_X3_noteMatch r_X3_noteMatch_80 rfl rfl rfl ?_
          refine b_add (pc' := 82) tb_X3_noteMatch r_X3_noteMatch_81 rfl ?_
          refine b_ic (pc' := 83) (2) tb_X3_noteMatch r_X3_noteMatch_82 rfl rfl ?_
          obtain ⟨v22, ev22, h⟩ := fK_v h
          rw [ev22]
          obtain ⟨v23, c1, c2, c3, ev23, h⟩ := dvK_in h
          refine b_div (pc' := 84) tb_X3_noteMatch r_X3_noteMatch_83 c1 c2 c3 ev23 rfl ?_
          refine b_st (pc' := 86) [(4, .inl v23), (0, .inr (.inr (.inl 19))), (1, .inl x1), (2, .inl x8), (3, .inl x9)] tb_X3_noteMatch r_X3_noteMatch_84 rfl rfl rfl rfl ?_
          refine b_iln (pc' := 87) (a := .inl x1) tb_X3_noteMatch r_X3_noteMatch_86 rfl rfl rfl ?_
          refine b_aln (pc' := 88) (a := .inr (.inr (.inl 19))) tb_X3_noteMatch r_X3_noteMatch_87 rfl rfl rfl ?_
          refine b_gr (pc' := 91) tb_X3_noteMatch r_X3_noteMatch_88 tF_19_3_0 rfl ?_
          refine b_gr (pc' := 94) tb_X3_noteMatch r_X3_noteMatch_91 tF_11_8_1 rfl ?_
          refine b_il (pc' := 96) (a := .inl v23) tb_X3_noteMatch r_X3_noteMatch_94 rfl rfl rfl ?_
          obtain ⟨v24, _, dv24, cv24, h⟩ := lK2_in h
          refine b_ia2 (pc' := 97) tb_X3_noteMatch r_X3_noteMatch_96 tA_12 dv24 cv24 rfl ?_
          refine jn_in (R := fun (j105 : (Nat → Nat → RN)) => ∀ (s25 M26 : Nat), j105 s25 M26 = some r → SN l g D sl 1 0 q q 54 105 [(0, .inr (.inr (.inl 19))), (1, .inl x1), (2, .inl x8), (3, .inl x9), (4, .inl v23)] [.inl s25] M26 (PR r)) h (fun s25 M26 h => ?_) (fun j105 hj105 h => ?_)
          · skip
            refine b_st (pc' := 107) [(5, .inl s25), (0, .inr (.inr (.inl 19))), (1, .inl x1), (2, .inl x8), (3, .inl x9), (4, .inl v23)] tb_X3_noteMatch r_X3_noteMatch_105 rfl rfl rfl rfl ?_
            refine b_il (pc' := 109) (a := .inl s25) tb_X3_noteMatch r_X3_noteMatch_107 rfl rfl rfl ?_
            refine jn_in (R := fun (j120 : (Nat → Nat → RN)) => ∀ (s27 M28 : Nat), j120 s27 M28 = some r → SN l g D sl 1 0 q q 54 120 [(0, .inr (.inr (.inl 19))), (1, .inl x1), (3, .inl x9), (4, .inl v23), (5, .inl s25)] [.inl s27] M28 (PR r)) h (fun s27 M28 h => ?_) (fun j120 hj120 h => ?_)
            · skip
              refine b_stn (pc' := 121) [(2, .inl s27), (0, .inr (.inr (.inl 19))), (1, .inl x1), (3, .inl x9), (4, .inl v23), (5, .inl s25)] tb_X3_noteMatch r_X3_noteMatch_120 rfl rfl rfl rfl ?_
              refine b_il (pc' := 123) (a := .inl s25) tb_X3_noteMatch r_X3_noteMatch_121 rfl rfl rfl ?_
              refine jn_in (R := fun (j132 : (Nat → Nat → RN)) => ∀ (s29 M30 : Nat), j132 s29 M30 = some r → SN l g D sl 1 0 q q 54 132 [(0, .inr (.inr (.inl 19))), (1, .inl x1), (2, .inl s27)] [.inl s29] M30 (PR r)) h (fun s29 M30 h => ?_) (fun j132 hj132 h => ?_)
              · skip
                refine b_stn (pc' := 133) [(3, .inl s29), (0, .inr (.inr (.inl 19))), (1, .inl x1), (2, .inl s27)] tb_X3_noteMatch r_X3_noteMatch_132 rfl rfl rfl rfl ?_
                refine b_goto (pc' := 74) tb_X3_noteMatch r_X3_noteMatch_133 rfl ?_
                refine b_sub9 [(0, .inr (.inr (.inl 19))), (1, .inl x1), (2, .inl s27), (3, .inl s29)] ⟨rfl, rfl, rfl, rfl, trivial⟩ ?_
                exact hj74 _ _ _ h
              rcases bK_in h with ⟨c1, h⟩ | ⟨c1, h⟩
              · refine b_ifT (t := 130) tb_X3_noteMatch r_X3_noteMatch_123 rfl ((zEq_c _).symm.trans c1) ?_
                refine b_il (pc' := 132) (a := .inl v23) tb_X3_noteMatch r_X3_noteMatch_130 rfl rfl rfl ?_
                refine b_sub9 [(0, .inr (.inr (.inl 19))), (1, .inl x1), (2, .inl s27)] ⟨rfl, rfl, rfl, trivial⟩ ?_
                exact hj132 _ _ h
              · refine b_ifF (t := 130) (pc' := 126) tb_X3_noteMatch r_X3_noteMatch_123 rfl ((zEq_c _).symm.trans c1) rfl ?_
                refine b_iln (pc' := 127) (a := .inl x9) tb_X3_noteMatch r_X3_noteMatch_126 rfl rfl rfl ?_
                refine b_goto (pc' := 132) tb_X3_noteMatch r_X3_noteMatch_127 rfl ?_
                refine b_sub9 [(0, .inr (.inr (.inl 19))), (1, .inl x1), (2, .inl s27)] ⟨rfl, rfl, rfl, trivial⟩ ?_
                exact hj132 _ _ h
            rcases bK_in h with ⟨c1, h⟩ | ⟨c1, h⟩
            · refine b_ifT (t := 119) tb_X3_noteMatch r_X3_noteMatch_109 rfl ((zEq_c _).symm.trans c1) ?_
              refine b_iln (pc' := 120) (a := .inl x8) tb_X3_noteMatch r_X3_noteMatch_119 rfl rfl rfl ?_
              refine b_sub9 [(0, .inr (.inr (.inl 19))), (1, .inl x1), (3, .inl x9), (4, .inl v23), (5, .inl s25)] ⟨rfl, rfl, rfl, rfl, rfl, trivial⟩ ?_
              exact hj120 _ _ h
            · refine b_ifF (t := 119) (pc' := 112) tb_X3_noteMatch r_X3_noteMatch_109 rfl ((zEq_c _).symm.trans c1) rfl ?_
              refine b_il (pc' := 114) (a := .inl v23) tb_X3_noteMatch r_X3_noteMatch_112 rfl rfl rfl ?_
              refine b_ic (pc' := 115) (1) tb_X3_noteMatch r_X3_noteMatch_114 rfl rfl ?_
              refine b_add (pc' := 116) tb_X3_noteMatch r_X3_noteMatch_115 rfl ?_
              refine b_goto (pc' := 120) tb_X3_noteMatch r_X3_noteMatch_116 rfl ?_
              obtain ⟨v31, ev31, h⟩ := fK_v h
              rw [ev31]
              refine b_sub9 [(0, .inr (.inr (.inl 19))), (1, .inl x1), (3, .inl x9), (4, .inl v23), (5, .inl s25)] ⟨rfl, rfl, rfl, rfl, rfl, trivial⟩ ?_
              exact hj120 _ _ h
          rcases bK_in h with ⟨c1, h⟩ | ⟨c1, h⟩
          · refine b_icT (t := 104) tb_X3_noteMatch r_X3_noteMatch_97 rfl ((nLe_c _ _).symm.trans c1) ?_
            refine b_ic (pc' := 105) (0) tb_X3_noteMatch r_X3_noteMatch_104 rfl rfl ?_
            refine b_sub9 [(0, .inr (.inr (.inl 19))), (1, .inl x1), (2, .inl x8), (3, .inl x9), (4, .inl v23)] ⟨rfl, rfl, rfl, rfl, rfl, trivial⟩ ?_
            exact hj105 _ _ h
          · refine b_icF (t := 104) (pc' := 100) tb_X3_noteMatch r_X3_noteMatch_97 rfl ((nLe_c _ _).symm.trans c1) rfl ?_
            refine b_ic (pc' := 101) (1) tb_X3_noteMatch r_X3_noteMatch_100 rfl rfl ?_
            refine b_goto (pc' := 105) tb_X3_noteMatch r_X3_noteMatch_101 rfl ?_
            refine b_sub9 [(0, .inr (.inr (.inl 19))), (1, .inl x1), (2, .inl x8), (3, .inl x9), (4, .inl v23)] ⟨rfl, rfl, rfl, rfl, rfl, trivial⟩ ?_
            exact hj105 _ _ h
      refine b_sub9 [(0, .inr (.inr (.inl 19))), (1, .inl x1), (2, .inl v4), (3, .inl v7)] ⟨rfl, rfl, rfl, rfl, trivial⟩ ?_
      exact hj74 _ _ _ h
    · refine b_icF (t := 59) (pc' := 10) tb_X3_noteMatch r_X3_noteMatch_7 rfl ((nGe_c _ _).symm.trans c1) rfl ?_
      refine b_aln (pc' := 11) (a := .inr (.inr (.inl 19))) tb_X3_noteMatch r_X3_noteMatch_10 rfl rfl rfl ?_
      obtain ⟨v32, cv32, h⟩ := rK_in h
      refine b_gi (pc' := 14) tb_X3_noteMatch r_X3_noteMatch_11 tF_19_3_5 cv32 rfl ?_
      refine b_iln (pc' := 15) (a := .inl x2) tb_X3_noteMatch r_X3_noteMatch_14 rfl rfl rfl ?_
      obtain ⟨v33, c1, ev33, h⟩ := hK_in h
      refine b_shr (pc' := 16) tb_X3_noteMatch r_X3_noteMatch_15 c1 ev33 rfl ?_
      refine b_ic (pc' := 17) (1) tb_X3_noteMatch r_X3_noteMatch_16 rfl rfl ?_
      refine b_and (pc' := 18) tb_X3_noteMatch r_X3_noteMatch_17 rfl ?_
      refine b_ic (pc' := 19) (1) tb_X3_noteMatch r_X3_noteMatch_18 rfl rfl ?_
      refine jn_in (R := fun (j53 : (Nat → Nat → RN)) => ∀ (x34 M35 : Nat), j53 x34 M35 = some r → SN l g D sl 1 0 q q 54 53 [(0, .inr (.inr (.inl 19))), (1, .inl x34), (2, .inl x2)] [] M35 (PR r)) h (fun x34 M35 h => ?_) (fun j53 hj53 h => ?_)
      · skip
        refine b_inc (pc' := 56) (v := x2) (n := 1) [(2, .inl (oAdd x2 1)), (0, .inr (.inr (.inl 19))), (1, .inl x34)] tb_X3_noteMatch r_X3_noteMatch_53 rfl rfl rfl rfl rfl ?_
        obtain ⟨v36, ev36, h⟩ := fK_v h
        rw [ev36]
        refine b_goto (pc' := 4) tb_X3_noteMatch r_X3_noteMatch_56 rfl ?_
        refine b_sub9 [(0, .inr (.inr (.inl 19))), (1, .inl x34), (2, .inl v36)] ⟨rfl, rfl, rfl, trivial⟩ ?_
        exact hj4 _ _ _ h
      rcases bK_in h with ⟨c1, h⟩ | ⟨c1, h⟩
      · refine b_icT (t := 53) tb_X3_noteMatch r_X3_noteMatch_19 rfl ((nNe_c _ _).symm.trans c1) ?_
        exact hj53 _ _ h
      · refine b_icF (t := 53) (pc' := 22) tb_X3_noteMatch r_X3_noteMatch_19 rfl ((nNe_c _ _).symm.trans c1) rfl ?_
        refine b_aln (pc' := 23) (a := .inr (.inr (.inl 19))) tb_X3_noteMatch r_X3_noteMatch_22 rfl rfl rfl ?_
        refine b_gr (pc' := 26) tb_X3_noteMatch r_X3_noteMatch_23 tF_19_3_4 rfl ?_
        refine b_iln (pc' := 27) (a := .inl x2) tb_X3_noteMatch r_X3_noteMatch_26 rfl rfl rfl ?_
        obtain ⟨v37, dv37, cv37, h⟩ := lK_in h
        refine b_ia (pc' := 28) tb_X3_noteMatch r_X3_noteMatch_27 tA_21 dv37 cv37 rfl ?_
        refine b_ic (pc' := 29) (4294967295) tb_X3_noteMatch r_X3_noteMatch_28 rfl rfl ?_
        rcases bK_in h with ⟨c1, h⟩ | ⟨c1, h⟩
        · refine b_icT (t := 53) tb_X3_noteMatch r_X3_noteMatch_29 rfl ((nEq_c _ _).symm.trans c1) ?_
          exact hj53 _ _ h
        · refine b_icF (t := 53) (pc' := 32) tb_X3_noteMatch r_X3_noteMatch_29 rfl ((nEq_c _ _).symm.trans c1) rfl ?_
          refine b_iln (pc' := 33) (a := .inl x1) tb_X3_noteMatch r_X3_noteMatch_32 rfl rfl rfl ?_
          refine b_si (pc' := 36) (256) tb_X3_noteMatch r_X3_noteMatch_33 rfl rfl rfl ?_
          refine b_mul (pc' := 37) tb_X3_noteMatch r_X3_noteMatch_36 rfl ?_
          refine b_aln (pc' := 38) (a := .inr (.inr (.inl 19))) tb_X3_noteMatch r_X3_noteMatch_37 rfl rfl rfl ?_
          refine b_gr (pc' := 41) tb_X3_noteMatch r_X3_noteMatch_38 tF_19_3_2 rfl ?_
          refine b_gr (pc' := 44) tb_X3_noteMatch r_X3_noteMatch_41 tF_28_4_11 rfl ?_
          refine b_aln (pc' := 45) (a := .inr (.inr (.inl 19))) tb_X3_noteMatch r_X3_noteMatch_44 rfl rfl rfl ?_
          refine b_gr (pc' := 48) tb_X3_noteMatch r_X3_noteMatch_45 tF_19_3_4 rfl ?_
          refine b_iln (pc' := 49) (a := .inl x2) tb_X3_noteMatch r_X3_noteMatch_48 rfl rfl rfl ?_
          obtain ⟨v38, dv38, cv38, h⟩ := lK_in h
          refine b_ia (pc' := 50) tb_X3_noteMatch r_X3_noteMatch_49 tA_21 dv38 cv38 rfl ?_
          obtain ⟨v39, dv39, cv39, h⟩ := lK_in h
          refine b_ia (pc' := 51) tb_X3_noteMatch r_X3_noteMatch_50 tA_36 dv39 cv39 rfl ?_
          refine b_add (pc' := 52) tb_X3_noteMatch r_X3_noteMatch_51 rfl ?_
          obtain ⟨v40, ev40, h⟩ := fK_v h
          rw [ev40]
          refine b_stn (pc' := 53) [(1, .inl v40), (0, .inr (.inr (.inl 19))), (2, .inl x2)] tb_X3_noteMatch r_X3_noteMatch_52 rfl rfl rfl rfl ?_
          refine b_sub9 [(0, .inr (.inr (.inl 19))), (1, .inl v40), (2, .inl x2)] ⟨rfl, rfl, rfl, trivial⟩ ?_
          exact hj53 _ _ h
  refine b_sub9 [(0, .inr (.inr (.inl 19))), (1, .inl 0), (2, .inl 0)] ⟨rfl, rfl, rfl, trivial⟩ ?_
  exact hj4 _ _ _ h
