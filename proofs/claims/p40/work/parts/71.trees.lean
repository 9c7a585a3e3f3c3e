/-! more of them -/
noncomputable def m_X4_addIdentities (M0 : Nat) : RN :=
  lp (fun _ _ => none) (fun (j2 : (Nat →  Nat → RN)) => fun (x1 : Nat) (M2 : Nat) => rK M2 7897 (fun v3 => bK (nGe x1 v3) (some (1, M2)) (sK M2 7851 2 x1 4294967295 (fun M4 => lK M4 7884 2 x1 (fun v5 => bK (nEq v5 4294967295) (fK (oAdd x1 1) (fun v7 => j2 v7 M4)) none))))) (fun (j2 : (Nat →  Nat → RN)) => j2 0 M0)
set_option maxRecDepth 100000 in
theorem snd_X4_addIdentities {l : Launch} {g : GV} {D : va_G} {sl q : Nat} {M0 : Nat} {r : Nat × Nat} (h : m_X4_addIdentities M0 = some r) : SN l g D sl 9 0 q q 37 0 [(0, .inr (.inr (.inl 28)))] [] M0 (PR r) := by
  unfold m_X4_addIdentities at h
  refine b_ic (pc' := 1) (0) tb_X4_addIdentities r_X4_addIdentities_0 rfl rfl ?_
  refine b_stn (pc' := 2) [(1, .inl 0), (0, .inr (.inr (.inl 28)))] tb_X4_addIdentities r_X4_addIdentities_1 rfl rfl rfl rfl ?_
  refine lp_in (R := fun (j2 : (Nat → Nat → RN)) => ∀ (x1 M2 : Nat), j2 x1 M2 = some r → SN l g D sl 9 0 q q 37 2 [(0, .inr (.inr (.inl 28))), (1, .inl x1)] [] M2 (PR r)) h (fun _ _ h => by cases h) (fun j2 hj2 => ?_) (fun j2 hj2 h => ?_)
  · intro x1 M2 h
    refine b_iln (pc' := 3) (a := .inl x1) tb_X4_addIdentities r_X4_addIdentities_2 rfl rfl rfl ?_
    refine b_aln (pc' := 4) (a := .inr (.inr (.inl 28))) tb_X4_addIdentities r_X4_addIdentities_3 rfl rfl rfl ?_
    refine b_gr (pc' := 7) tb_X4_addIdentities r_X4_addIdentities_4 tF_28_5_1 rfl ?_
    obtain ⟨v3, cv3, h⟩ := rK_in h
    refine b_gi (pc' := 10) tb_X4_addIdentities r_X4_addIdentities_7 tF_1_8_1 cv3 rfl ?_
    rcases bK_in h with ⟨c1, h⟩ | ⟨c1, h⟩
    · refine b_icT (t := 117) tb_X4_addIdentities r_X4_addIdentities_10 rfl ((nGe_c _ _).symm.trans c1) ?_
      exact b_vo tb_X4_addIdentities r_X4_addIdentities_117 (sj h).symm
    · refine b_icF (t := 117) (pc' := 13) tb_X4_addIdentities r_X4_addIdentities_10 rfl ((nGe_c _ _).symm.trans c1) rfl ?_
      refine b_aln (pc' := 14) (a := .inr (.inr (.inl 28))) tb_X4_addIdentities r_X4_addIdentities_13 rfl rfl rfl ?_
      refine b_gr (pc' := 17) tb_X4_addIdentities r_X4_addIdentities_14 tF_28_5_14 rfl ?_
      refine b_iln (pc' := 18) (a := .inl x1) tb_X4_addIdentities r_X4_addIdentities_17 rfl rfl rfl ?_
      refine b_ic (pc' := 19) (4294967295) tb_X4_addIdentities r_X4_addIdentities_18 rfl rfl ?_
      obtain ⟨M4, dM4, cM4, h⟩ := sK_in h
      refine b_is (pc' := 20) tb_X4_addIdentities r_X4_addIdentities_19 tA_39 dM4 cM4 rfl ?_
      refine b_aln (pc' := 21) (a := .inr (.inr (.inl 28))) tb_X4_addIdentities r_X4_addIdentities_20 rfl rfl rfl ?_
      refine b_gr (pc' := 24) tb_X4_addIdentities r_X4_addIdentities_21 tF_28_5_1 rfl ?_
      refine b_gr (pc' := 27) tb_X4_addIdentities r_X4_addIdentities_24 tF_1_8_6 rfl ?_
      refine b_iln (pc' := 28) (a := .inl x1) tb_X4_addIdentities r_X4_addIdentities_27 rfl rfl rfl ?_
      obtain ⟨v5, dv5, cv5, h⟩ := lK_in h
      refine b_ia (pc' := 29) tb_X4_addIdentities r_X4_addIdentities_28 tA_6 dv5 cv5 rfl ?_
      refine b_ic (pc' := 30) (4294967295) tb_X4_addIdentities r_X4_addIdentities_29 rfl rfl ?_
      obtain ⟨c1, h⟩ := bK_t h
      refine b_icT (t := 111) tb_X4_addIdentities r_X4_addIdentities_30 rfl ((nEq_c _ _).symm.trans c1) ?_
      refine b_inc (pc' := 114) (v := x1) (n := 1) [(1, .inl (oAdd x1 1)), (0, .inr (.inr (.inl 28)))] tb_X4_addIdentities r_X4_addIdentities_111 rfl rfl rfl rfl rfl ?_
      obtain ⟨v7, ev7, h⟩ := fK_v h
      rw [ev7]
      refine b_goto (pc' := 2) tb_X4_addIdentities r_X4_addIdentities_114 rfl ?_
      refine b_sub9 [(0, .inr (.inr (.inl 28))), (1, .inl v7)] ⟨rfl, rfl, trivial⟩ ?_
      exact hj2 _ _ h
  refine b_sub9 [(0, .inr (.inr (.inl 28))), (1, .inl 0)] ⟨rfl, rfl, trivial⟩ ?_
  exact hj2 _ _ h
noncomputable def m_X4_rankAll (M0 : Nat) : RN :=
  pK M0 7894 0 (fun M1 => lp (fun _ _ => none) (fun (j7 : (Nat →  Nat → RN)) => fun (x2 : Nat) (M3 : Nat) => rK M3 7893 (fun v4 => bK (nGe x2 v4) (rK M3 7903 (fun v5 => pK M3 7895 v5 (fun M6 => lp (fun _ _ => none) (fun (j223 : (Nat →  Nat → RN)) => fun (x7 : Nat) (M8 : Nat) => rK M8 7894 (fun v9 => jn (fun (M10 : Nat) => some (1, M10)) (fun (j301 : ( Nat → RN)) => bK (nGe x7 v9) (j301 M8) (rK M8 7895 (fun v11 => bK (nGe (oAdd v11 x7) 27460) (j301 M8) (lK M8 7883 1 x7 (fun v12 => sK M8 7849 1 v12 x7 (fun M13 => rK M13 7895 (fun v14 => lK M13 7883 1 x7 (fun v15 => lK M13 7879 1 v15 (fun v16 => fK (oAdd v14 x7) (fun v17 => sK2 M13 5731 660 7500 8932 v17 v16 (fun M18 => rK M18 7895 (fun v19 => pK M18 7903 (oAdd (oAdd v19 x7) 1) (fun M20 => fK (oAdd x7 1) (fun v21 => j223 v21 M20)))))))))))))))) (fun (j223 : (Nat →  Nat → RN)) => j223 0 M6)))) (rK M3 7894 (fun v22 => bK (nGe 0 v22) (rK M3 7894 (fun v44 => bK (nEq 0 v44) (bK (zEq 1) none (sK M3 7876 1 x2 x2 (fun M55 => jn (fun (M56 : Nat) => fK (oAdd x2 1) (fun v57 => j7 v57 M56)) (fun (j204 : ( Nat → RN)) => bK (zEq 1) (j204 M55) (rK M55 7894 (fun v58 => fK (oSub v58 0) (fun v59 => fK (oAdd 0 1) (fun v60 => cpK M55 7883 1 256 256 0 v60 v59 (fun M61 => sK M61 7883 1 0 x2 (fun M62 => rK M62 7894 (fun v63 => pK M62 7894 (oAdd v63 1) (fun M64 => j204 M64)))))))))))) none)) none)))) (fun (j7 : (Nat →  Nat → RN)) => j7 0 M1))
set_option maxRecDepth 100000 in
theorem snd_X4_rankAll {l : Launch} {g : GV} {D : va_G} {sl q : Nat} {M0 : Nat} {r : Nat × Nat} (h : m_X4_rankAll M0 = some r) : SN l g D sl 9 0 q q 20 0 [(0, .inr (.inr (.inl 28)))] [] M0 (PR r) := by
  unfold m_X4_rankAll at h
  refine b_aln (pc' := 1) (a := .inr (.inr (.inl 28))) tb_X4_rankAll r_X4_rankAll_0 rfl rfl rfl ?_
  refine b_ic (pc' := 2) (0) tb_X4_rankAll r_X4_rankAll_1 rfl rfl ?_
  obtain ⟨M1, cM1, h⟩ := pK_in h
  refine b_pi (pc' := 5) tb_X4_rankAll r_X4_rankAll_2 rfl tF_28_5_9 cM1 rfl ?_
  refine b_ic (pc' := 6) (0) tb_X4_rankAll r_X4_rankAll_5 rfl rfl ?_
  refine b_stn (pc' := 7) [(1, .inl 0), (0, .inr (.inr (.inl 28)))] tb_X4_rankAll r_X4_rankAll_6 rfl rfl rfl rfl ?_
  refine lp_in (R := fun (j7 : (Nat → Nat → RN)) => ∀ (x2 M3 : Nat), j7 x2 M3 = some r → SN l g D sl 9 0 q q 20 7 [(0, .inr (.inr (.inl 28))), (1, .inl x2)] [] M3 (PR r)) h (fun _ _ h => by cases h) (fun j7 hj7 => ?_) (fun j7 hj7 h => ?_)
  · intro x2 M3 h
    refine b_iln (pc' := 8) (a := .inl x2) tb_X4_rankAll r_X4_rankAll_7 rfl rfl rfl ?_
    refine b_aln (pc' := 9) (a := .inr (.inr (.inl 28))) tb_X4_rankAll r_X4_rankAll_8 rfl rfl rfl ?_
    obtain ⟨v4, cv4, h⟩ := rK_in h
    refine b_gi (pc' := 12) tb_X4_rankAll r_X4_rankAll_9 tF_28_5_2 cv4 rfl ?_
    rcases bK_in h with ⟨c1, h⟩ | ⟨c1, h⟩
    · refine b_icT (t := 210) tb_X4_rankAll r_X4_rankAll_12 rfl ((nGe_c _ _).symm.trans c1) ?_
      refine b_aln (pc' := 211) (a := .inr (.inr (.inl 28))) tb_X4_rankAll r_X4_rankAll_210 rfl rfl rfl ?_
      refine b_aln (pc' := 212) (a := .inr (.inr (.inl 28))) tb_X4_rankAll r_X4_rankAll_211 rfl rfl rfl ?_
      refine b_gr (pc' := 215) tb_X4_rankAll r_X4_rankAll_212 tF_28_5_0 rfl ?_
      obtain ⟨v5, cv5, h⟩ := rK_in h
      refine b_gi (pc' := 218) tb_X4_rankAll r_X4_rankAll_215 tF_11_9_2 cv5 rfl ?_
      obtain ⟨M6, cM6, h⟩ := pK_in h
      refine b_pi (pc' := 221) tb_X4_rankAll r_X4_rankAll_218 rfl tF_28_5_15 cM6 rfl ?_
      refine b_ic (pc' := 222) (0) tb_X4_rankAll r_X4_rankAll_221 rfl rfl ?_
      refine b_stn (pc' := 223) [(1, .inl 0), (0, .inr (.inr (.inl 28)))] tb_X4_rankAll r_X4_rankAll_222 rfl rfl rfl rfl ?_
      refine lp_in (R := fun (j223 : (Nat → Nat → RN)) => ∀ (x7 M8 : Nat), j223 x7 M8 = some r → SN l g D sl 9 0 q q 20 223 [(0, .inr (.inr (.inl 28))), (1, .inl x7)] [] M8 (PR r)) h (fun _ _ h => by cases h) (fun j223 hj223 => ?_) (fun j223 hj223 h => ?_)
      · intro x7 M8 h
        refine b_iln (pc' := 224) (a := .inl x7) tb_X4_rankAll r_X4_rankAll_223 rfl rfl rfl ?_
        refine b_aln (pc' := 225) (a := .inr (.inr (.inl 28))) tb_X4_rankAll r_X4_rankAll_224 rfl rfl rfl ?_
        obtain ⟨v9, cv9, h⟩ := rK_in h
        refine b_gi (pc' := 228) tb_X4_rankAll r_X4_rankAll_225 tF_28_5_9 cv9 rfl ?_
        refine jn_in (R := fun (j301 : ( Nat → RN)) => ∀ (M10 : Nat), j301 M10 = some r → SN l g D sl 9 0 q q 20 301 [] [] M10 (PR r)) h (fun M10 h => ?_) (fun j301 hj301 h => ?_)
        · skip
          exact b_vo tb_X4_rankAll r_X4_rankAll_301 (sj h).symm
        rcases bK_in h with ⟨c1, h⟩ | ⟨c1, h⟩
        · refine b_icT (t := 301) tb_X4_rankAll r_X4_rankAll_228 rfl ((nGe_c _ _).symm.trans c1) ?_
          refine b_sub9 [] trivial ?_
          exact hj301 _ h
        · refine b_icF (t := 301) (pc' := 231) tb_X4_rankAll r_X4_rankAll_228 rfl ((nGe_c _ _).symm.trans c1) rfl ?_
          refine b_aln (pc' := 232) (a := .inr (.inr (.inl 28))) tb_X4_rankAll r_X4_rankAll_231 rfl rfl rfl ?_
          obtain ⟨v11, cv11, h⟩ := rK_in h
          refine b_gi (pc' := 235) tb_X4_rankAll r_X4_rankAll_232 tF_28_5_15 cv11 rfl ?_
          refine b_iln (pc' := 236) (a := .inl x7) tb_X4_rankAll r_X4_rankAll_235 rfl rfl rfl ?_
          refine b_add (pc' := 237) tb_X4_rankAll r_X4_rankAll_236 rfl ?_
          refine b_si (pc' := 240) (27460) tb_X4_rankAll r_X4_rankAll_237 rfl rfl rfl ?_
          rcases bK_in h with ⟨c1, h⟩ | ⟨c1, h⟩
          · refine b_icT (t := 301) tb_X4_rankAll r_X4_rankAll_240 rfl ((nGe_c _ _).symm.trans c1) ?_
            refine b_sub9 [] trivial ?_
            exact hj301 _ h
          · refine b_icF (t := 301) (pc' := 243) tb_X4_rankAll r_X4_rankAll_240 rfl ((nGe_c _ _).symm.trans c1) rfl ?_
            refine b_aln (pc' := 244) (a := .inr (.inr (.inl 28))) tb_X4_rankAll r_X4_rankAll_243 rfl rfl rfl ?_
            refine b_gr (pc' := 247) tb_X4_rankAll r_X4_rankAll_244 tF_28_5_11 rfl ?_
            refine b_aln (pc' := 248) (a := .inr (.inr (.inl 28))) tb_X4_rankAll r_X4_rankAll_247 rfl rfl rfl ?_
            refine b_gr (pc' := 251) tb_X4_rankAll r_X4_rankAll_248 tF_28_5_10 rfl ?_
            refine b_iln (pc' := 252) (a := .inl x7) tb_X4_rankAll r_X4_rankAll_251 rfl rfl rfl ?_
            obtain ⟨v12, dv12, cv12, h⟩ := lK_in h
            refine b_ia (pc' := 253) tb_X4_rankAll r_X4_rankAll_252 tA_35 dv12 cv12 rfl ?_
            refine b_iln (pc' := 254) (a := .inl x7) tb_X4_rankAll r_X4_rankAll_253 rfl rfl rfl ?_
            obtain ⟨M13, dM13, cM13, h⟩ := sK_in h
            refine b_is (pc' := 255) tb_X4_rankAll r_X4_rankAll_254 tA_36 dM13 cM13 rfl ?_
            refine b_aln (pc' := 256) (a := .inr (.inr (.inl 28))) tb_X4_rankAll r_X4_rankAll_255 rfl rfl rfl ?_
            refine b_gr (pc' := 259) tb_X4_rankAll r_X4_rankAll_256 tF_28_5_0 rfl ?_
            refine b_gr (pc' := 262) tb_X4_rankAll r_X4_rankAll_259 tF_11_9_1 rfl ?_
            refine b_aln (pc' := 263) (a := .inr (.inr (.inl 28))) tb_X4_rankAll r_X4_rankAll_262 rfl rfl rfl ?_
            obtain ⟨v14, cv14, h⟩ := rK_in h
            refine b_gi (pc' := 266) tb_X4_rankAll r_X4_rankAll_263 tF_28_5_15 cv14 rfl ?_
            refine b_iln (pc' := 267) (a := .inl x7) tb_X4_rankAll r_X4_rankAll_266 rfl rfl rfl ?_
            refine b_add (pc' := 268) tb_X4_rankAll r_X4_rankAll_267 rfl ?_
            refine b_aln (pc' := 269) (a := .inr (.inr (.inl 28))) tb_X4_rankAll r_X4_rankAll_268 rfl rfl rfl ?_
            refine b_gr (pc' := 272) tb_X4_rankAll r_X4_rankAll_269 tF_28_5_3 rfl ?_
            refine b_aln (pc' := 273) (a := .inr (.inr (.inl 28))) tb_X4_rankAll r_X4_rankAll_272 rfl rfl rfl ?_
            refine b_gr (pc' := 276) tb_X4_rankAll r_X4_rankAll_273 tF_28_5_10 rfl ?_
            refine b_iln (pc' := 277) (a := .inl x7) tb_X4_rankAll r_X4_rankAll_276 rfl rfl rfl ?_
            obtain ⟨v15, dv15, cv15, h⟩ := lK_in h
            refine b_ia (pc' := 278) tb_X4_rankAll r_X4_rankAll_277 tA_35 dv15 cv15 rfl ?_
            obtain ⟨v16, dv16, cv16, h⟩ := lK_in h
            refine b_ia (pc' := 279) tb_X4_rankAll r_X4_rankAll_278 tA_29 dv16 cv16 rfl ?_
            obtain ⟨v17, ev17, h⟩ := fK_v h
            rw [ev17]
            obtain ⟨M18, _, dM18, cM18, h⟩ := sK2_in h
            refine b_is2 (pc' := 280) tb_X4_rankAll r_X4_rankAll_279 tA_12 dM18 cM18 rfl ?_
            refine b_aln (pc' := 281) (a := .inr (.inr (.inl 28))) tb_X4_rankAll r_X4_rankAll_280 rfl rfl rfl ?_
            refine b_gr (pc' := 284) tb_X4_rankAll r_X4_rankAll_281 tF_28_5_0 rfl ?_
            refine b_aln (pc' := 285) (a := .inr (.inr (.inl 28))) tb_X4_rankAll r_X4_rankAll_284 rfl rfl rfl ?_
            obtain ⟨v19, cv19, h⟩ := rK_in h
            refine b_gi (pc' := 288) tb_X4_rankAll r_X4_rankAll_285 tF_28_5_15 cv19 rfl ?_
            refine b_iln (pc' := 289) (a := .inl x7) tb_X4_rankAll r_X4_rankAll_288 rfl rfl rfl ?_
            refine b_add (pc' := 290) tb_X4_rankAll r_X4_rankAll_289 rfl ?_
            refine b_ic (pc' := 291) (1) tb_X4_rankAll r_X4_rankAll_290 rfl rfl ?_
            refine b_add (pc' := 292) tb_X4_rankAll r_X4_rankAll_291 rfl ?_
            obtain ⟨M20, cM20, h⟩ := pK_in h
            refine b_pi (pc' := 295) tb_X4_rankAll r_X4_rankAll_292 rfl tF_11_9_2 cM20 rfl ?_
            refine b_inc (pc' := 298) (v := x7) (n := 1) [(1, .inl (oAdd x7 1)), (0, .inr (.inr (.inl 28)))] tb_X4_rankAll r_X4_rankAll_295 rfl rfl rfl rfl rfl ?_
            obtain ⟨v21, ev21, h⟩ := fK_v h
            rw [ev21]
            refine b_goto (pc' := 223) tb_X4_rankAll r_X4_rankAll_298 rfl ?_
            refine b_sub9 [(0, .inr (.inr (.inl 28))), (1, .inl v21)] ⟨rfl, rfl, trivial⟩ ?_
            exact hj223 _ _ h
      refine b_sub9 [(0, .inr (.inr (.inl 28))), (1, .inl 0)] ⟨rfl, rfl, trivial⟩ ?_
      exact hj223 _ _ h
    · refine b_icF (t := 210) (pc' := 15) tb_X4_rankAll r_X4_rankAll_12 rfl ((nGe_c _ _).symm.trans c1) rfl ?_
      refine b_ic (pc' := 16) (0) tb_X4_rankAll r_X4_rankAll_15 rfl rfl ?_
      refine b_stn (pc' := 17) [(2, .inl 0), (0, .inr (.inr (.inl 28))), (1, .inl x2)] tb_X4_rankAll r_X4_rankAll_16 rfl rfl rfl rfl ?_
      refine b_aln (pc' := 18) (a := .inr (.inr (.inl 28))) tb_X4_rankAll r_X4_rankAll_17 rfl rfl rfl ?_
      obtain ⟨v22, cv22, h⟩ := rK_in h
      refine b_gi (pc' := 21) tb_X4_rankAll r_X4_rankAll_18 tF_28_5_9 cv22 rfl ?_
      refine b_stn (pc' := 22) [(3, .inl v22), (2, .inl 0), (0, .inr (.inr (.inl 28))), (1, .inl x2)] tb_X4_rankAll r_X4_rankAll_21 rfl rfl rfl rfl ?_
      refine b_iln (pc' := 23) (a := .inl 0) tb_X4_rankAll r_X4_rankAll_22 rfl rfl rfl ?_
      refine b_iln (pc' := 24) (a := .inl v22) tb_X4_rankAll r_X4_rankAll_23 rfl rfl rfl ?_
      obtain ⟨c1, h⟩ := bK_t h
      refine b_icT (t := 98) tb_X4_rankAll r_X4_rankAll_24 rfl ((nGe_c _ _).symm.trans c1) ?_
      refine b_iln (pc' := 99) (a := .inl 0) tb_X4_rankAll r_X4_rankAll_98 rfl rfl rfl ?_
      refine b_aln (pc' := 100) (a := .inr (.inr (.inl 28))) tb_X4_rankAll r_X4_rankAll_99 rfl rfl rfl ?_
      obtain ⟨v44, cv44, h⟩ := rK_in h
      refine b_gi (pc' := 103) tb_X4_rankAll r_X4_rankAll_100 tF_28_5_9 cv44 rfl ?_
      obtain ⟨c1, h⟩ := bK_t h
      refine b_icT (t := 133) tb_X4_rankAll r_X4_rankAll_103 rfl ((nEq_c _ _).symm.trans c1) ?_
      refine b_ic (pc' := 134) (1) tb_X4_rankAll r_X4_rankAll_133 rfl rfl ?_
      refine b_goto (pc' := 138) tb_X4_rankAll r_X4_rankAll_134 rfl ?_
      refine b_st (pc' := 140) [(4, .inl 1), (3, .inl v22), (2, .inl 0), (0, .inr (.inr (.inl 28))), (1, .inl x2)] tb_X4_rankAll r_X4_rankAll_138 rfl rfl rfl rfl ?_
      refine b_aln (pc' := 141) (a := .inr (.inr (.inl 28))) tb_X4_rankAll r_X4_rankAll_140 rfl rfl rfl ?_
      refine b_gr (pc' := 144) tb_X4_rankAll r_X4_rankAll_141 tF_28_5_8 rfl ?_
      refine b_iln (pc' := 145) (a := .inl x2) tb_X4_rankAll r_X4_rankAll_144 rfl rfl rfl ?_
      refine b_il (pc' := 147) (a := .inl 1) tb_X4_rankAll r_X4_rankAll_145 rfl rfl rfl ?_
      obtain ⟨c1, h⟩ := bK_f h
      refine b_ifF (t := 154) (pc' := 150) tb_X4_rankAll r_X4_rankAll_147 rfl ((zEq_c _).symm.trans c1) rfl ?_
      refine b_iln (pc' := 151) (a := .inl x2) tb_X4_rankAll r_X4_rankAll_150 rfl rfl rfl ?_
      refine b_goto (pc' := 160) tb_X4_rankAll r_X4_rankAll_151 rfl ?_
      obtain ⟨M55, dM55, cM55, h⟩ := sK_in h
      refine b_is (pc' := 161) tb_X4_rankAll r_X4_rankAll_160 tA_34 dM55 cM55 rfl ?_
      refine b_il (pc' := 163) (a := .inl 1) tb_X4_rankAll r_X4_rankAll_161 rfl rfl rfl ?_
      refine jn_in (R := fun (j204 : ( Nat → RN)) => ∀ (M56 : Nat), j204 M56 = some r → SN l g D sl 9 0 q q 20 204 [(0, .inr (.inr (.inl 28))), (1, .inl x2)] [] M56 (PR r)) h (fun M56 h => ?_) (fun j204 hj204 h => ?_)
      · skip
        refine b_inc (pc' := 207) (v := x2) (n := 1) [(1, .inl (oAdd x2 1)), (0, .inr (.inr (.inl 28)))] tb_X4_rankAll r_X4_rankAll_204 rfl rfl rfl rfl rfl ?_
        obtain ⟨v57, ev57, h⟩ := fK_v h
        rw [ev57]
        refine b_goto (pc' := 7) tb_X4_rankAll r_X4_rankAll_207 rfl ?_
        refine b_sub9 [(0, .inr (.inr (.inl 28))), (1, .inl v57)] ⟨rfl, rfl, trivial⟩ ?_
        exact hj7 _ _ h
      rcases bK_in h with ⟨c1, h⟩ | ⟨c1, h⟩
      · refine b_ifT (t := 204) tb_X4_rankAll r_X4_rankAll_163 rfl ((zEq_c _).symm.trans c1) ?_
        refine b_sub9 [(0, .inr (.inr (.inl 28))), (1, .inl x2)] ⟨rfl, rfl, trivial⟩ ?_
        exact hj204 _ h
      · refine b_ifF (t := 204) (pc' := 166) tb_X4_rankAll r_X4_rankAll_163 rfl ((zEq_c _).symm.trans c1) rfl ?_
        refine b_aln (pc' := 167) (a := .inr (.inr (.inl 28))) tb_X4_rankAll r_X4_rankAll_166 rfl rfl rfl ?_
        refine b_gr (pc' := 170) tb_X4_rankAll r_X4_rankAll_167 tF_28_5_10 rfl ?_
        refine b_iln (pc' := 171) (a := .inl 0) tb_X4_rankAll r_X4_rankAll_170 rfl rfl rfl ?_
        refine b_aln (pc' := 172) (a := .inr (.inr (.inl 28))) tb_X4_rankAll r_X4_rankAll_171 rfl rfl rfl ?_
        refine b_gr (pc' := 175) tb_X4_rankAll r_X4_rankAll_172 tF_28_5_10 rfl ?_
        refine b_iln (pc' := 176) (a := .inl 0) tb_X4_rankAll r_X4_rankAll_175 rfl rfl rfl ?_
        refine b_ic (pc' := 177) (1) tb_X4_rankAll r_X4_rankAll_176 rfl rfl ?_
        refine b_add (pc' := 178) tb_X4_rankAll r_X4_rankAll_177 rfl ?_
        refine b_aln (pc' := 179) (a := .inr (.inr (.inl 28))) tb_X4_rankAll r_X4_rankAll_178 rfl rfl rfl ?_
        obtain ⟨v58, cv58, h⟩ := rK_in h
        refine b_gi (pc' := 182) tb_X4_rankAll r_X4_rankAll_179 tF_28_5_9 cv58 rfl ?_
        refine b_iln (pc' := 183) (a := .inl 0) tb_X4_rankAll r_X4_rankAll_182 rfl rfl rfl ?_
        refine b_sub (pc' := 184) tb_X4_rankAll r_X4_rankAll_183 rfl ?_
        obtain ⟨v59, ev59, h⟩ := fK_v h
        rw [ev59]
        obtain ⟨v60, ev60, h⟩ := fK_v h
        rw [ev60]
        obtain ⟨M61, _, _, dM61, fM61, cM61, h⟩ := cpK_in h
        refine b_cp (by decide) (pc' := 187) tb_X4_rankAll r_X4_rankAll_184 tA_35 rfl dM61 fM61 cM61 rfl ?_
        refine b_aln (pc' := 188) (a := .inr (.inr (.inl 28))) tb_X4_rankAll r_X4_rankAll_187 rfl rfl rfl ?_
        refine b_gr (pc' := 191) tb_X4_rankAll r_X4_rankAll_188 tF_28_5_10 rfl ?_
        refine b_iln (pc' := 192) (a := .inl 0) tb_X4_rankAll r_X4_rankAll_191 rfl rfl rfl ?_
        refine b_iln (pc' := 193) (a := .inl x2) tb_X4_rankAll r_X4_rankAll_192 rfl rfl rfl ?_
        obtain ⟨M62, dM62, cM62, h⟩ := sK_in h
        refine b_is (pc' := 194) tb_X4_rankAll r_X4_rankAll_193 tA_35 dM62 cM62 rfl ?_
        refine b_aln (pc' := 195) (a := .inr (.inr (.inl 28))) tb_X4_rankAll r_X4_rankAll_194 rfl rfl rfl ?_
        refine b_dup (pc' := 196) tb_X4_rankAll r_X4_rankAll_195 rfl rfl ?_
        obtain ⟨v63, cv63, h⟩ := rK_in h
        refine b_gi (pc' := 199) tb_X4_rankAll r_X4_rankAll_196 tF_28_5_9 cv63 rfl ?_
        refine b_ic (pc' := 200) (1) tb_X4_rankAll r_X4_rankAll_199 rfl rfl ?_
        refine b_add (pc' := 201) tb_X4_rankAll r_X4_rankAll_200 rfl ?_
        obtain ⟨M64, cM64, h⟩ := pK_in h
        refine b_pi (pc' := 204) tb_X4_rankAll r_X4_rankAll_201 rfl tF_28_5_9 cM64 rfl ?_
        refine b_sub9 [(0, .inr (.inr (.inl 28))), (1, .inl x2)] ⟨rfl, rfl, trivial⟩ ?_
        exact hj204 _ h
  refine b_sub9 [(0, .inr (.inr (.inl 28))), (1, .inl 0)] ⟨rfl, rfl, trivial⟩ ?_
  exact hj7 _ _ h
noncomputable def m_X8_variablesAt (a1 : Nat) (M0 : Nat) : RN :=
  cI (m_X8_end a1 M0) (fun v2 M1 => lp (fun _ _ _ => none) (fun (j11 : (Nat → Nat →  Nat → RN)) => fun (x3 : Nat) (x4 : Nat) (M5 : Nat) => bK (nGe x4 v2) (some (Nat.add x3 2, M5)) (lK2 M5 5731 660 7500 8932 x4 (fun v6 => bK (nGe v6 32) (fK (oOr x3 0) (fun v9 => fK (oAdd x4 1) (fun v10 => j11 v9 v10 M5))) none))) (fun (j11 : (Nat → Nat →  Nat → RN)) => j11 0 a1 M1))
set_option maxRecDepth 100000 in
theorem snd_X8_variablesAt {l : Launch} {g : GV} {D : va_G} {sl q : Nat} {a1 M0 : Nat} {r : Nat × Nat} (h : m_X8_variablesAt a1 M0 = some r) : SN l g D sl 10 0 q q 23 0 [(0, .inr (.inr (.inl 11))), (1, .inl a1)] [] M0 (PR r) := by
  unfold m_X8_variablesAt at h
  refine b_ic (pc' := 1) (0) tb_X8_variablesAt r_X8_variablesAt_0 rfl rfl ?_
  refine b_stn (pc' := 2) [(2, .inl 0), (0, .inr (.inr (.inl 11))), (1, .inl a1)] tb_X8_variablesAt r_X8_variablesAt_1 rfl rfl rfl rfl ?_
  refine b_aln (pc' := 3) (a := .inr (.inr (.inl 11))) tb_X8_variablesAt r_X8_variablesAt_2 rfl rfl rfl ?_
  refine b_iln (pc' := 4) (a := .inl a1) tb_X8_variablesAt r_X8_variablesAt_3 rfl rfl rfl ?_
  obtain ⟨v2, M1, ov2, h⟩ := cI_in h
  refine b_vI (pc' := 7) tb_X8_variablesAt r_X8_variablesAt_4 tb_X8_end mo_X8_end (by decide) rfl rfl ov2 (fun r hr => snd_X8_end hr) (by decide) rfl rfl rfl ?_
  refine b_stn (pc' := 8) [(3, .inl v2), (2, .inl 0), (0, .inr (.inr (.inl 11))), (1, .inl a1)] tb_X8_variablesAt r_X8_variablesAt_7 rfl rfl rfl rfl ?_
  refine b_iln (pc' := 9) (a := .inl a1) tb_X8_variablesAt r_X8_variablesAt_8 rfl rfl rfl ?_
  refine b_st (pc' := 11) [(4, .inl a1), (3, .inl v2), (2, .inl 0), (0, .inr (.inr (.inl 11))), (1, .inl a1)] tb_X8_variablesAt r_X8_variablesAt_9 rfl rfl rfl rfl ?_
  refine lp_in (R := fun (j11 : (Nat → Nat → Nat → RN)) => ∀ (x3 x4 M5 : Nat), j11 x3 x4 M5 = some r → SN l g D sl 10 0 q q 23 11 [(0, .inr (.inr (.inl 11))), (2, .inl x3), (3, .inl v2), (4, .inl x4)] [] M5 (PR r)) h (fun _ _ _ h => by cases h) (fun j11 hj11 => ?_) (fun j11 hj11 h => ?_)
  · intro x3 x4 M5 h
    refine b_il (pc' := 13) (a := .inl x4) tb_X8_variablesAt r_X8_variablesAt_11 rfl rfl rfl ?_
    refine b_iln (pc' := 14) (a := .inl v2) tb_X8_variablesAt r_X8_variablesAt_13 rfl rfl rfl ?_
    rcases bK_in h with ⟨c1, h⟩ | ⟨c1, h⟩
    · refine b_icT (t := 51) tb_X8_variablesAt r_X8_variablesAt_14 rfl ((nGe_c _ _).symm.trans c1) ?_
      refine b_iln (pc' := 52) (a := .inl x3) tb_X8_variablesAt r_X8_variablesAt_51 rfl rfl rfl ?_
      exact b_ri tb_X8_variablesAt r_X8_variablesAt_52 rfl (sj h).symm
    · refine b_icF (t := 51) (pc' := 17) tb_X8_variablesAt r_X8_variablesAt_14 rfl ((nGe_c _ _).symm.trans c1) rfl ?_
      refine b_iln (pc' := 18) (a := .inl x3) tb_X8_variablesAt r_X8_variablesAt_17 rfl rfl rfl ?_
      refine b_aln (pc' := 19) (a := .inr (.inr (.inl 11))) tb_X8_variablesAt r_X8_variablesAt_18 rfl rfl rfl ?_
      refine b_gr (pc' := 22) tb_X8_variablesAt r_X8_variablesAt_19 tF_11_9_1 rfl ?_
      refine b_il (pc' := 24) (a := .inl x4) tb_X8_variablesAt r_X8_variablesAt_22 rfl rfl rfl ?_
      obtain ⟨v6, _, dv6, cv6, h⟩ := lK2_in h
      refine b_ia2 (pc' := 25) tb_X8_variablesAt r_X8_variablesAt_24 tA_12 dv6 cv6 rfl ?_
      refine b_bi (pc' := 27) (32) tb_X8_variablesAt r_X8_variablesAt_25 rfl rfl rfl ?_
      obtain ⟨c1, h⟩ := bK_t h
      refine b_icT (t := 42) tb_X8_variablesAt r_X8_variablesAt_27 rfl ((nGe_c _ _).symm.trans c1) ?_
      refine b_ic (pc' := 43) (0) tb_X8_variablesAt r_X8_variablesAt_42 rfl rfl ?_
      refine b_or (pc' := 44) tb_X8_variablesAt r_X8_variablesAt_43 rfl ?_
      obtain ⟨v9, ev9, h⟩ := fK_v h
      rw [ev9]
      refine b_stn (pc' := 45) [(2, .inl v9), (0, .inr (.inr (.inl 11))), (3, .inl v2), (4, .inl x4)] tb_X8_variablesAt r_X8_variablesAt_44 rfl rfl rfl rfl ?_
      refine b_inc (pc' := 48) (v := x4) (n := 1) [(4, .inl (oAdd x4 1)), (2, .inl v9), (0, .inr (.inr (.inl 11))), (3, .inl v2)] tb_X8_variablesAt r_X8_variablesAt_45 rfl rfl rfl rfl rfl ?_
      obtain ⟨v10, ev10, h⟩ := fK_v h
      rw [ev10]
      refine b_goto (pc' := 11) tb_X8_variablesAt r_X8_variablesAt_48 rfl ?_
      refine b_sub9 [(0, .inr (.inr (.inl 11))), (2, .inl v9), (3, .inl v2), (4, .inl v10)] ⟨rfl, rfl, rfl, rfl, trivial⟩ ?_
      exact hj11 _ _ _ h
  refine b_sub9 [(0, .inr (.inr (.inl 11))), (2, .inl 0), (3, .inl v2), (4, .inl a1)] ⟨rfl, rfl, rfl, rfl, trivial⟩ ?_
  exact hj11 _ _ _ h
noncomputable def m_J7_fill_53178_21 (a1 : Nat) (M0 : Nat) : RN :=
  lp (fun _ _ _ => none) (fun (j5 : (Nat → Nat →  Nat → RN)) => fun (x1 : Nat) (x2 : Nat) (M3 : Nat) => bK (nGe x1 x2) (some (1, M3)) (sK M3 7827 20 x1 a1 (fun M4 => fK (oAdd x1 1) (fun v5 => j5 v5 x2 M4)))) (fun (j5 : (Nat → Nat →  Nat → RN)) => j5 0 20 M0)
set_option maxRecDepth 100000 in
theorem snd_J7_fill_53178_21 {l : Launch} {g : GV} {D : va_G} {sl q : Nat} {a1 M0 : Nat} {r : Nat × Nat} (h : m_J7_fill_53178_21 a1 M0 = some r) : SN l g D sl 9 0 q q 9 0 [(0, .inr (.inr (.inl 21))), (1, .inl a1)] [] M0 (PR r) := by
  unfold m_J7_fill_53178_21 at h
  refine b_ic (pc' := 1) (0) tb_J7_fill_53178 r_J7_fill_53178_0 rfl rfl ?_
  refine b_stn (pc' := 2) [(2, .inl 0), (0, .inr (.inr (.inl 21))), (1, .inl a1)] tb_J7_fill_53178 r_J7_fill_53178_1 rfl rfl rfl rfl ?_
  refine b_aln (pc' := 3) (a := .inr (.inr (.inl 21))) tb_J7_fill_53178 r_J7_fill_53178_2 rfl rfl rfl ?_
  refine b_len (pc' := 4) tb_J7_fill_53178 r_J7_fill_53178_3 tA_21 rfl ?_
  refine b_stn (pc' := 5) [(3, .inl 20), (2, .inl 0), (0, .inr (.inr (.inl 21))), (1, .inl a1)] tb_J7_fill_53178 r_J7_fill_53178_4 rfl rfl rfl rfl ?_
  refine lp_in (R := fun (j5 : (Nat → Nat → Nat → RN)) => ∀ (x1 x2 M3 : Nat), j5 x1 x2 M3 = some r → SN l g D sl 9 0 q q 9 5 [(0, .inr (.inr (.inl 21))), (1, .inl a1), (2, .inl x1), (3, .inl x2)] [] M3 (PR r)) h (fun _ _ _ h => by cases h) (fun j5 hj5 => ?_) (fun j5 hj5 h => ?_)
  · intro x1 x2 M3 h
    refine b_iln (pc' := 6) (a := .inl x1) tb_J7_fill_53178 r_J7_fill_53178_5 rfl rfl rfl ?_
    refine b_iln (pc' := 7) (a := .inl x2) tb_J7_fill_53178 r_J7_fill_53178_6 rfl rfl rfl ?_
    rcases bK_in h with ⟨c1, h⟩ | ⟨c1, h⟩
    · refine b_icT (t := 20) tb_J7_fill_53178 r_J7_fill_53178_7 rfl ((nGe_c _ _).symm.trans c1) ?_
      exact b_vo tb_J7_fill_53178 r_J7_fill_53178_20 (sj h).symm
    · refine b_icF (t := 20) (pc' := 10) tb_J7_fill_53178 r_J7_fill_53178_7 rfl ((nGe_c _ _).symm.trans c1) rfl ?_
      refine b_aln (pc' := 11) (a := .inr (.inr (.inl 21))) tb_J7_fill_53178 r_J7_fill_53178_10 rfl rfl rfl ?_
      refine b_iln (pc' := 12) (a := .inl x1) tb_J7_fill_53178 r_J7_fill_53178_11 rfl rfl rfl ?_
      refine b_iln (pc' := 13) (a := .inl a1) tb_J7_fill_53178 r_J7_fill_53178_12 rfl rfl rfl ?_
      obtain ⟨M4, dM4, cM4, h⟩ := sK_in h
      refine b_is (pc' := 14) tb_J7_fill_53178 r_J7_fill_53178_13 tA_21 dM4 cM4 rfl ?_
      refine b_inc (pc' := 17) (v := x1) (n := 1) [(2, .inl (oAdd x1 1)), (0, .inr (.inr (.inl 21))), (1, .inl a1), (3, .inl x2)] tb_J7_fill_53178 r_J7_fill_53178_14 rfl rfl rfl rfl rfl ?_
      obtain ⟨v5, ev5, h⟩ := fK_v h
      rw [ev5]
      refine b_goto (pc' := 5) tb_J7_fill_53178 r_J7_fill_53178_17 rfl ?_
      refine b_sub9 [(0, .inr (.inr (.inl 21))), (1, .inl a1), (2, .inl v5), (3, .inl x2)] ⟨rfl, rfl, rfl, rfl, trivial⟩ ?_
      exact hj5 _ _ _ h
  refine b_sub9 [(0, .inr (.inr (.inl 21))), (1, .inl a1), (2, .inl 0), (3, .inl 20)] ⟨rfl, rfl, rfl, rfl, trivial⟩ ?_
  exact hj5 _ _ _ h
noncomputable def m_X3_addDuty (a1 a2 a3 : Nat) (M0 : Nat) : RN :=
  rK M0 7889 (fun v1 => sK M0 7881 1 v1 a1 (fun M2 => sK M2 7873 1 v1 a2 (fun M3 => sK M3 7874 1 v1 0 (fun M4 => sK M4 7875 1 v1 a3 (fun M5 => rK M5 7889 (fun v6 => pK M5 7889 (oAdd v6 1) (fun M7 => some (Nat.add v1 2, M7))))))))
set_option maxRecDepth 100000 in
theorem snd_X3_addDuty {l : Launch} {g : GV} {D : va_G} {sl q : Nat} {a1 a2 a3 M0 : Nat} {r : Nat × Nat} (h : m_X3_addDuty a1 a2 a3 M0 = some r) : SN l g D sl 9 0 q q 44 0 [(0, .inr (.inr (.inl 19))), (1, .inl a1), (2, .inl a2), (3, .inl a3)] [] M0 (PR r) := by
  unfold m_X3_addDuty at h
  refine b_aln (pc' := 1) (a := .inr (.inr (.inl 19))) tb_X3_addDuty r_X3_addDuty_0 rfl rfl rfl ?_
  obtain ⟨v1, cv1, h⟩ := rK_in h
  refine b_gi (pc' := 4) tb_X3_addDuty r_X3_addDuty_1 tF_19_4_12 cv1 rfl ?_
  refine b_st (pc' := 6) [(4, .inl v1), (0, .inr (.inr (.inl 19))), (1, .inl a1), (2, .inl a2), (3, .inl a3)] tb_X3_addDuty r_X3_addDuty_4 rfl rfl rfl rfl ?_
  refine b_aln (pc' := 7) (a := .inr (.inr (.inl 19))) tb_X3_addDuty r_X3_addDuty_6 rfl rfl rfl ?_
  refine b_gr (pc' := 10) tb_X3_addDuty r_X3_addDuty_7 tF_19_4_6 rfl ?_
  refine b_il (pc' := 12) (a := .inl v1) tb_X3_addDuty r_X3_addDuty_10 rfl rfl rfl ?_
  refine b_iln (pc' := 13) (a := .inl a1) tb_X3_addDuty r_X3_addDuty_12 rfl rfl rfl ?_
  obtain ⟨M2, dM2, cM2, h⟩ := sK_in h
  refine b_is (pc' := 14) tb_X3_addDuty r_X3_addDuty_13 tA_22 dM2 cM2 rfl ?_
  refine b_aln (pc' := 15) (a := .inr (.inr (.inl 19))) tb_X3_addDuty r_X3_addDuty_14 rfl rfl rfl ?_
  refine b_gr (pc' := 18) tb_X3_addDuty r_X3_addDuty_15 tF_19_4_7 rfl ?_
  refine b_il (pc' := 20) (a := .inl v1) tb_X3_addDuty r_X3_addDuty_18 rfl rfl rfl ?_
  refine b_iln (pc' := 21) (a := .inl a2) tb_X3_addDuty r_X3_addDuty_20 rfl rfl rfl ?_
  obtain ⟨M3, dM3, cM3, h⟩ := sK_in h
  refine b_is (pc' := 22) tb_X3_addDuty r_X3_addDuty_21 tA_23 dM3 cM3 rfl ?_
  refine b_aln (pc' := 23) (a := .inr (.inr (.inl 19))) tb_X3_addDuty r_X3_addDuty_22 rfl rfl rfl ?_
  refine b_gr (pc' := 26) tb_X3_addDuty r_X3_addDuty_23 tF_19_4_9 rfl ?_
  refine b_il (pc' := 28) (a := .inl v1) tb_X3_addDuty r_X3_addDuty_26 rfl rfl rfl ?_
  refine b_ic (pc' := 29) (0) tb_X3_addDuty r_X3_addDuty_28 rfl rfl ?_
  obtain ⟨M4, dM4, cM4, h⟩ := sK_in h
  refine b_is (pc' := 30) tb_X3_addDuty r_X3_addDuty_29 tA_25 dM4 cM4 rfl ?_
  refine b_aln (pc' := 31) (a := .inr (.inr (.inl 19))) tb_X3_addDuty r_X3_addDuty_30 rfl rfl rfl ?_
  refine b_gr (pc' := 34) tb_X3_addDuty r_X3_addDuty_31 tF_19_4_11 rfl ?_
  refine b_il (pc' := 36) (a := .inl v1) tb_X3_addDuty r_X3_addDuty_34 rfl rfl rfl ?_
  refine b_iln (pc' := 37) (a := .inl a3) tb_X3_addDuty r_X3_addDuty_36 rfl rfl rfl ?_
  obtain ⟨M5, dM5, cM5, h⟩ := sK_in h
  refine b_is (pc' := 38) tb_X3_addDuty r_X3_addDuty_37 tA_27 dM5 cM5 rfl ?_
  refine b_aln (pc' := 39) (a := .inr (.inr (.inl 19))) tb_X3_addDuty r_X3_addDuty_38 rfl rfl rfl ?_
  refine b_dup (pc' := 40) tb_X3_addDuty r_X3_addDuty_39 rfl rfl ?_
  obtain ⟨v6, cv6, h⟩ := rK_in h
  refine b_gi (pc' := 43) tb_X3_addDuty r_X3_addDuty_40 tF_19_4_12 cv6 rfl ?_
  refine b_ic (pc' := 44) (1) tb_X3_addDuty r_X3_addDuty_43 rfl rfl ?_
  refine b_add (pc' := 45) tb_X3_addDuty r_X3_addDuty_44 rfl ?_
  obtain ⟨M7, cM7, h⟩ := pK_in h
  refine b_pi (pc' := 48) tb_X3_addDuty r_X3_addDuty_45 rfl tF_19_4_12 cM7 rfl ?_
  refine b_il (pc' := 50) (a := .inl v1) tb_X3_addDuty r_X3_addDuty_48 rfl rfl rfl ?_
  exact b_ri tb_X3_addDuty r_X3_addDuty_50 rfl (sj h).symm
noncomputable def m_X3_meetArguments (sv : Nat → Nat → RN) (a1 a2 a3 : Nat) (M0 : Nat) : RN :=
  rK M0 7889 (fun v1 => lK M0 7875 1 a1 (fun v2 => lK M0 7881 1 a1 (fun v3 => fK (oAdd v3 1) (fun v4 => bK (nGe 0 a2) (cV (sv v2 M0) (fun M7 => pK M7 7889 v1 (fun M8 => some (1, M8)))) none))))
set_option maxRecDepth 100000 in
theorem snd_X3_meetArguments {l : Launch} {g : GV} {D : va_G} {sl q hh : Nat} {sv : Nat → Nat → RN} (hsv : ∀ (a M : Nat) (r : Nat × Nat), sv a M = some r → SN l g D sl hh 0 q q 42 0 [(0, .inr (.inr (.inl 19))), (1, .inl a)] [] M (PR r)) (hb : 8 ≤ hh) {a1 a2 a3 M0 : Nat} {r : Nat × Nat} (h : m_X3_meetArguments sv a1 a2 a3 M0 = some r) : SN l g D sl (hh + 1) 0 q q 45 0 [(0, .inr (.inr (.inl 19))), (1, .inl a1), (2, .inl a2), (3, .inl a3)] [] M0 (PR r) := by
  unfold m_X3_meetArguments at h
  refine b_aln (pc' := 1) (a := .inr (.inr (.inl 19))) tb_X3_meetArguments r_X3_meetArguments_0 rfl rfl rfl ?_
  obtain ⟨v1, cv1, h⟩ := rK_in h
  refine b_gi (pc' := 4) tb_X3_meetArguments r_X3_meetArguments_1 tF_19_4_12 cv1 rfl ?_
  refine b_st (pc' := 6) [(4, .inl v1), (0, .inr (.inr (.inl 19))), (1, .inl a1), (2, .inl a2), (3, .inl a3)] tb_X3_meetArguments r_X3_meetArguments_4 rfl rfl rfl rfl ?_
  refine b_aln (pc' := 7) (a := .inr (.inr (.inl 19))) tb_X3_meetArguments r_X3_meetArguments_6 rfl rfl rfl ?_
  refine b_gr (pc' := 10) tb_X3_meetArguments r_X3_meetArguments_7 tF_19_4_11 rfl ?_
  refine b_iln (pc' := 11) (a := .inl a1) tb_X3_meetArguments r_X3_meetArguments_10 rfl rfl rfl ?_
  obtain ⟨v2, dv2, cv2, h⟩ := lK_in h
  refine b_ia (pc' := 12) tb_X3_meetArguments r_X3_meetArguments_11 tA_27 dv2 cv2 rfl ?_
  refine b_st (pc' := 14) [(5, .inl v2), (4, .inl v1), (0, .inr (.inr (.inl 19))), (1, .inl a1), (2, .inl a2), (3, .inl a3)] tb_X3_meetArguments r_X3_meetArguments_12 rfl rfl rfl rfl ?_
  refine b_aln (pc' := 15) (a := .inr (.inr (.inl 19))) tb_X3_meetArguments r_X3_meetArguments_14 rfl rfl rfl ?_
  refine b_gr (pc' := 18) tb_X3_meetArguments r_X3_meetArguments_15 tF_19_4_6 rfl ?_
  refine b_iln (pc' := 19) (a := .inl a1) tb_X3_meetArguments r_X3_meetArguments_18 rfl rfl rfl ?_
  obtain ⟨v3, dv3, cv3, h⟩ := lK_in h
  refine b_ia (pc' := 20) tb_X3_meetArguments r_X3_meetArguments_19 tA_22 dv3 cv3 rfl ?_
  refine b_ic (pc' := 21) (1) tb_X3_meetArguments r_X3_meetArguments_20 rfl rfl ?_
  refine b_add (pc' := 22) tb_X3_meetArguments r_X3_meetArguments_21 rfl ?_
  obtain ⟨v4, ev4, h⟩ := fK_v h
  rw [ev4]
  refine b_st (pc' := 24) [(6, .inl v4), (5, .inl v2), (4, .inl v1), (0, .inr (.inr (.inl 19))), (1, .inl a1), (2, .inl a2), (3, .inl a3)] tb_X3_meetArguments r_X3_meetArguments_22 rfl rfl rfl rfl ?_
  refine b_ic (pc' := 25) (0) tb_X3_meetArguments r_X3_meetArguments_24 rfl rfl ?_
  refine b_st (pc' := 27) [(7, .inl 0), (6, .inl v4), (5, .inl v2), (4, .inl v1), (0, .inr (.inr (.inl 19))), (1, .inl a1), (2, .inl a2), (3, .inl a3)] tb_X3_meetArguments r_X3_meetArguments_25 rfl rfl rfl rfl ?_
  refine b_il (pc' := 29) (a := .inl 0) tb_X3_meetArguments r_X3_meetArguments_27 rfl rfl rfl ?_
  refine b_iln (pc' := 30) (a := .inl a2) tb_X3_meetArguments r_X3_meetArguments_29 rfl rfl rfl ?_
  obtain ⟨c1, h⟩ := bK_t h
  refine b_icT (t := 92) tb_X3_meetArguments r_X3_meetArguments_30 rfl ((nGe_c _ _).symm.trans c1) ?_
  refine b_aln (pc' := 93) (a := .inr (.inr (.inl 19))) tb_X3_meetArguments r_X3_meetArguments_92 rfl rfl rfl ?_
  refine b_il (pc' := 95) (a := .inl v2) tb_X3_meetArguments r_X3_meetArguments_93 rfl rfl rfl ?_
  obtain ⟨M7, oM7, h⟩ := cV_in h
  refine b_vV (pc' := 98) tb_X3_meetArguments r_X3_meetArguments_95 tb_X3_solve mo_X3_solve (by decide) rfl rfl oM7 (fun r hr => hsv _ _ _ hr) (by omega) rfl rfl rfl ?_
  refine b_aln (pc' := 99) (a := .inr (.inr (.inl 19))) tb_X3_meetArguments r_X3_meetArguments_98 rfl rfl rfl ?_
  refine b_il (pc' := 101) (a := .inl v1) tb_X3_meetArguments r_X3_meetArguments_99 rfl rfl rfl ?_
  obtain ⟨M8, cM8, h⟩ := pK_in h
  refine b_pi (pc' := 104) tb_X3_meetArguments r_X3_meetArguments_101 rfl tF_19_4_12 cM8 rfl ?_
  exact b_vo tb_X3_meetArguments r_X3_meetArguments_104 (sj h).symm
noncomputable def m_X3_meet (sv : Nat → Nat → RN) (a1 : Nat) (M0 : Nat) : RN :=
  lK M0 7881 1 a1 (fun v1 => lK M0 7873 1 a1 (fun v2 => lK2 M0 5731 660 7500 8932 v1 (fun v3 => cI (m_X10_operatorIn v3 M0) (fun v5 M4 => lK M4 7886 2 v5 (fun v6 => bK (nLt v6 2) (lK M4 7882 1 v2 (fun v14 => bK (nEq v14 v5) (dvK Nat.mod v3 8 (fun v18 => cV (m_X3_meetArguments sv a1 v18 0 M4) (fun M19 => lK M19 7886 2 v5 (fun v20 => bK (nNe v20 1) (some (1, M19)) none)))) none)) none)))))
set_option maxRecDepth 100000 in
theorem snd_X3_meet {l : Launch} {g : GV} {D : va_G} {sl q hh : Nat} {sv : Nat → Nat → RN} (hsv : ∀ (a M : Nat) (r : Nat × Nat), sv a M = some r → SN l g D sl hh 0 q q 42 0 [(0, .inr (.inr (.inl 19))), (1, .inl a)] [] M (PR r)) (hb : 9 ≤ hh) {a1 M0 : Nat} {r : Nat × Nat} (h : m_X3_meet sv a1 M0 = some r) : SN l g D sl (hh + 2) 0 q q 33 0 [(0, .inr (.inr (.inl 19))), (1, .inl a1)] [] M0 (PR r) := by
  unfold m_X3_meet at h
  refine b_aln (pc' := 1) (a := .inr (.inr (.inl 19))) tb_X3_meet r_X3_meet_0 rfl rfl rfl ?_
  refine b_gr (pc' := 4) tb_X3_meet r_X3_meet_1 tF_19_4_6 rfl ?_
  refine b_iln (pc' := 5) (a := .inl a1) tb_X3_meet r_X3_meet_4 rfl rfl rfl ?_
  obtain ⟨v1, dv1, cv1, h⟩ := lK_in h
  refine b_ia (pc' := 6) tb_X3_meet r_X3_meet_5 tA_22 dv1 cv1 rfl ?_
  refine b_stn (pc' := 7) [(2, .inl v1), (0, .inr (.inr (.inl 19))), (1, .inl a1)] tb_X3_meet r_X3_meet_6 rfl rfl rfl rfl ?_
  refine b_aln (pc' := 8) (a := .inr (.inr (.inl 19))) tb_X3_meet r_X3_meet_7 rfl rfl rfl ?_
  refine b_gr (pc' := 11) tb_X3_meet r_X3_meet_8 tF_19_4_7 rfl ?_
  refine b_iln (pc' := 12) (a := .inl a1) tb_X3_meet r_X3_meet_11 rfl rfl rfl ?_
  obtain ⟨v2, dv2, cv2, h⟩ := lK_in h
  refine b_ia (pc' := 13) tb_X3_meet r_X3_meet_12 tA_23 dv2 cv2 rfl ?_
  refine b_stn (pc' := 14) [(3, .inl v2), (2, .inl v1), (0, .inr (.inr (.inl 19))), (1, .inl a1)] tb_X3_meet r_X3_meet_13 rfl rfl rfl rfl ?_
  refine b_aln (pc' := 15) (a := .inr (.inr (.inl 19))) tb_X3_meet r_X3_meet_14 rfl rfl rfl ?_
  refine b_gr (pc' := 18) tb_X3_meet r_X3_meet_15 tF_19_4_0 rfl ?_
  refine b_gr (pc' := 21) tb_X3_meet r_X3_meet_18 tF_11_9_1 rfl ?_
  refine b_iln (pc' := 22) (a := .inl v1) tb_X3_meet r_X3_meet_21 rfl rfl rfl ?_
  obtain ⟨v3, _, dv3, cv3, h⟩ := lK2_in h
  refine b_ia2 (pc' := 23) tb_X3_meet r_X3_meet_22 tA_12 dv3 cv3 rfl ?_
  refine b_st (pc' := 25) [(4, .inl v3), (3, .inl v2), (2, .inl v1), (0, .inr (.inr (.inl 19))), (1, .inl a1)] tb_X3_meet r_X3_meet_23 rfl rfl rfl rfl ?_
  refine b_il (pc' := 27) (a := .inl v3) tb_X3_meet r_X3_meet_25 rfl rfl rfl ?_
  obtain ⟨v5, M4, ov5, h⟩ := cI_in h
  refine b_sI (pc' := 30) tb_X3_meet r_X3_meet_27 tb_X10_operatorIn mo_X10_operatorIn (by decide) rfl rfl ov5 (fun r hr => snd_X10_operatorIn hr) (Nat.le_trans (by decide) (Nat.le_trans hb (by omega))) rfl rfl rfl ?_
  refine b_st (pc' := 32) [(5, .inl v5), (4, .inl v3), (3, .inl v2), (2, .inl v1), (0, .inr (.inr (.inl 19))), (1, .inl a1)] tb_X3_meet r_X3_meet_30 rfl rfl rfl rfl ?_
  refine b_aln (pc' := 33) (a := .inr (.inr (.inl 19))) tb_X3_meet r_X3_meet_32 rfl rfl rfl ?_
  refine b_gr (pc' := 36) tb_X3_meet r_X3_meet_33 tF_19_4_1 rfl ?_
  refine b_gr (pc' := 39) tb_X3_meet r_X3_meet_36 tF_1_8_5 rfl ?_
  refine b_il (pc' := 41) (a := .inl v5) tb_X3_meet r_X3_meet_39 rfl rfl rfl ?_
  obtain ⟨v6, dv6, cv6, h⟩ := lK_in h
  refine b_ia (pc' := 42) tb_X3_meet r_X3_meet_41 tA_5 dv6 cv6 rfl ?_
  refine b_ic (pc' := 43) (2) tb_X3_meet r_X3_meet_42 rfl rfl ?_
  obtain ⟨c1, h⟩ := bK_t h
  refine b_icT (t := 107) tb_X3_meet r_X3_meet_43 rfl ((nLt_c _ _).symm.trans c1) ?_
  refine b_aln (pc' := 108) (a := .inr (.inr (.inl 19))) tb_X3_meet r_X3_meet_107 rfl rfl rfl ?_
  refine b_gr (pc' := 111) tb_X3_meet r_X3_meet_108 tF_19_4_2 rfl ?_
  refine b_gr (pc' := 114) tb_X3_meet r_X3_meet_111 tF_28_5_5 rfl ?_
  refine b_iln (pc' := 115) (a := .inl v2) tb_X3_meet r_X3_meet_114 rfl rfl rfl ?_
  obtain ⟨v14, dv14, cv14, h⟩ := lK_in h
  refine b_ia (pc' := 116) tb_X3_meet r_X3_meet_115 tA_31 dv14 cv14 rfl ?_
  refine b_il (pc' := 118) (a := .inl v5) tb_X3_meet r_X3_meet_116 rfl rfl rfl ?_
  obtain ⟨c1, h⟩ := bK_t h
  refine b_icT (t := 122) tb_X3_meet r_X3_meet_118 rfl ((nEq_c _ _).symm.trans c1) ?_
  refine b_aln (pc' := 123) (a := .inr (.inr (.inl 19))) tb_X3_meet r_X3_meet_122 rfl rfl rfl ?_
  refine b_iln (pc' := 124) (a := .inl a1) tb_X3_meet r_X3_meet_123 rfl rfl rfl ?_
  refine b_il (pc' := 126) (a := .inl v3) tb_X3_meet r_X3_meet_124 rfl rfl rfl ?_
  refine b_bi (pc' := 128) (8) tb_X3_meet r_X3_meet_126 rfl rfl rfl ?_
  obtain ⟨v18, c1, c2, c3, ev18, h⟩ := dvK_in h
  refine b_rem (pc' := 129) tb_X3_meet r_X3_meet_128 c1 c2 c3 ev18 rfl ?_
  refine b_ic (pc' := 130) (0) tb_X3_meet r_X3_meet_129 rfl rfl ?_
  obtain ⟨M19, oM19, h⟩ := cV_in h
  refine b_vV (pc' := 133) tb_X3_meet r_X3_meet_130 tb_X3_meetArguments mo_X3_meetArguments (by decide) rfl rfl oM19 (fun r hr => snd_X3_meetArguments (sv := sv) hsv (Nat.le_trans (by decide) hb) hr) (by omega) rfl rfl rfl ?_
  refine b_aln (pc' := 134) (a := .inr (.inr (.inl 19))) tb_X3_meet r_X3_meet_133 rfl rfl rfl ?_
  refine b_gr (pc' := 137) tb_X3_meet r_X3_meet_134 tF_19_4_1 rfl ?_
  refine b_gr (pc' := 140) tb_X3_meet r_X3_meet_137 tF_1_8_5 rfl ?_
  refine b_il (pc' := 142) (a := .inl v5) tb_X3_meet r_X3_meet_140 rfl rfl rfl ?_
  obtain ⟨v20, dv20, cv20, h⟩ := lK_in h
  refine b_ia (pc' := 143) tb_X3_meet r_X3_meet_142 tA_5 dv20 cv20 rfl ?_
  refine b_ic (pc' := 144) (1) tb_X3_meet r_X3_meet_143 rfl rfl ?_
  obtain ⟨c1, h⟩ := bK_t h
  refine b_icT (t := 179) tb_X3_meet r_X3_meet_144 rfl ((nNe_c _ _).symm.trans c1) ?_
  exact b_vo tb_X3_meet r_X3_meet_179 (sj h).symm
noncomputable def m_X3_noteMatch (M0 : Nat) : RN :=
  lp (fun _ _ => none) (fun (j4 : (Nat →  Nat → RN)) => fun (x1 : Nat) (M2 : Nat) => bK (nGe x1 10) (rK M2 7890 (fun v3 => rK M2 7890 (fun v4 => rK M2 7892 (fun v5 => fK (oAdd v4 v5) (fun v6 => bK (nGe v3 v6) (rK M2 7890 (fun v22 => rK M2 7892 (fun v23 => fK (oAdd v22 v23) (fun v24 => bK (nGe v24 27460) none (bK (nGe v3 v24) (fK (oSub v24 v3) (fun v31 => fK (oAdd v3 1) (fun v32 => cpK M2 5731 660 7500 8932 v3 v32 v31 (fun M33 => sK2 M33 5731 660 7500 8932 v3 0 (fun M34 => rK M34 7892 (fun v35 => pK M34 7892 (oAdd v35 1) (fun M36 => some (1, M36)))))))) none))))) none))))) (rK M2 7888 (fun v37 => hK v37 x1 (fun v38 => bK (nNe (oAnd v38 1) 1) (fK (oAdd x1 1) (fun v40 => j4 v40 M2)) none)))) (fun (j4 : (Nat →  Nat → RN)) => j4 0 M0)
set_option maxRecDepth 100000 in
theorem snd_X3_noteMatch {l : Launch} {g : GV} {D : va_G} {sl q : Nat} {M0 : Nat} {r : Nat × Nat} (h : m_X3_noteMatch M0 = some r) : SN l g D sl 9 0 q q 14 0 [(0, .inr (.inr (.inl 19)))] [] M0 (PR r) := by
  unfold m_X3_noteMatch at h
  refine b_ic (pc' := 1) (0) tb_X3_noteMatch r_X3_noteMatch_0 rfl rfl ?_
  refine b_stn (pc' := 2) [(1, .inl 0), (0, .inr (.inr (.inl 19)))] tb_X3_noteMatch r_X3_noteMatch_1 rfl rfl rfl rfl ?_
  refine b_ic (pc' := 3) (0) tb_X3_noteMatch r_X3_noteMatch_2 rfl rfl ?_
  refine b_stn (pc' := 4) [(2, .inl 0), (1, .inl 0), (0, .inr (.inr (.inl 19)))] tb_X3_noteMatch r_X3_noteMatch_3 rfl rfl rfl rfl ?_
  refine lp_in (R := fun (j4 : (Nat → Nat → RN)) => ∀ (x1 M2 : Nat), j4 x1 M2 = some r → SN l g D sl 9 0 q q 14 4 [(0, .inr (.inr (.inl 19))), (1, .inl 0), (2, .inl x1)] [] M2 (PR r)) h (fun _ _ h => by cases h) (fun j4 hj4 => ?_) (fun j4 hj4 h => ?_)
  · intro x1 M2 h
    refine b_iln (pc' := 5) (a := .inl x1) tb_X3_noteMatch r_X3_noteMatch_4 rfl rfl rfl ?_
    refine b_bi (pc' := 7) (10) tb_X3_noteMatch r_X3_noteMatch_5 rfl rfl rfl ?_
    rcases bK_in h with ⟨c1, h⟩ | ⟨c1, h⟩
    · refine b_icT (t := 59) tb_X3_noteMatch r_X3_noteMatch_7 rfl ((nGe_c _ _).symm.trans c1) ?_
      refine b_aln (pc' := 60) (a := .inr (.inr (.inl 19))) tb_X3_noteMatch r_X3_noteMatch_59 rfl rfl rfl ?_
      obtain ⟨v3, cv3, h⟩ := rK_in h
      refine b_gi (pc' := 63) tb_X3_noteMatch r_X3_noteMatch_60 tF_19_4_13 cv3 rfl ?_
      refine b_stn (pc' := 64) [(2, .inl v3), (0, .inr (.inr (.inl 19))), (1, .inl 0)] tb_X3_noteMatch r_X3_noteMatch_63 rfl rfl rfl rfl ?_
      refine b_aln (pc' := 65) (a := .inr (.inr (.inl 19))) tb_X3_noteMatch r_X3_noteMatch_64 rfl rfl rfl ?_
      obtain ⟨v4, cv4, h⟩ := rK_in h
      refine b_gi (pc' := 68) tb_X3_noteMatch r_X3_noteMatch_65 tF_19_4_13 cv4 rfl ?_
      refine b_aln (pc' := 69) (a := .inr (.inr (.inl 19))) tb_X3_noteMatch r_X3_noteMatch_68 rfl rfl rfl ?_
      obtain ⟨v5, cv5, h⟩ := rK_in h
      refine b_gi (pc' := 72) tb_X3_noteMatch r_X3_noteMatch_69 tF_19_4_15 cv5 rfl ?_
      refine b_add (pc' := 73) tb_X3_noteMatch r_X3_noteMatch_72 rfl ?_
      obtain ⟨v6, ev6, h⟩ := fK_v h
      rw [ev6]
      refine b_stn (pc' := 74) [(3, .inl v6), (2, .inl v3), (0, .inr (.inr (.inl 19))), (1, .inl 0)] tb_X3_noteMatch r_X3_noteMatch_73 rfl rfl rfl rfl ?_
      refine b_iln (pc' := 75) (a := .inl v3) tb_X3_noteMatch r_X3_noteMatch_74 rfl rfl rfl ?_
      refine b_iln (pc' := 76) (a := .inl v6) tb_X3_noteMatch r_X3_noteMatch_75 rfl rfl rfl ?_
      obtain ⟨c1, h⟩ := bK_t h
      refine b_icT (t := 136) tb_X3_noteMatch r_X3_noteMatch_76 rfl ((nGe_c _ _).symm.trans c1) ?_
      refine b_aln (pc' := 137) (a := .inr (.inr (.inl 19))) tb_X3_noteMatch r_X3_noteMatch_136 rfl rfl rfl ?_
      obtain ⟨v22, cv22, h⟩ := rK_in h
      refine b_gi (pc' := 140) tb_X3_noteMatch r_X3_noteMatch_137 tF_19_4_13 cv22 rfl ?_
      refine b_aln (pc' := 141) (a := .inr (.inr (.inl 19))) tb_X3_noteMatch r_X3_noteMatch_140 rfl rfl rfl ?_
      obtain ⟨v23, cv23, h⟩ := rK_in h
      refine b_gi (pc' := 144) tb_X3_noteMatch r_X3_noteMatch_141 tF_19_4_15 cv23 rfl ?_
      refine b_add (pc' := 145) tb_X3_noteMatch r_X3_noteMatch_144 rfl ?_
      obtain ⟨v24, ev24, h⟩ := fK_v h
      rw [ev24]
      refine b_st (pc' := 147) [(4, .inl v24), (3, .inl v6), (2, .inl v3), (0, .inr (.inr (.inl 19))), (1, .inl 0)] tb_X3_noteMatch r_X3_noteMatch_145 rfl rfl rfl rfl ?_
      refine b_il (pc' := 149) (a := .inl v24) tb_X3_noteMatch r_X3_noteMatch_147 rfl rfl rfl ?_
      refine b_si (pc' := 152) (27460) tb_X3_noteMatch r_X3_noteMatch_149 rfl rfl rfl ?_
      obtain ⟨c1, h⟩ := bK_f h
      refine b_icF (t := 174) (pc' := 155) tb_X3_noteMatch r_X3_noteMatch_152 rfl ((nGe_c _ _).symm.trans c1) rfl ?_
      refine b_iln (pc' := 156) (a := .inl v3) tb_X3_noteMatch r_X3_noteMatch_155 rfl rfl rfl ?_
      refine b_il (pc' := 158) (a := .inl v24) tb_X3_noteMatch r_X3_noteMatch_156 rfl rfl rfl ?_
      obtain ⟨c1, h⟩ := bK_t h
      refine b_icT (t := 175) tb_X3_noteMatch r_X3_noteMatch_158 rfl ((nGe_c _ _).symm.trans c1) ?_
      refine b_aln (pc' := 176) (a := .inr (.inr (.inl 19))) tb_X3_noteMatch r_X3_noteMatch_175 rfl rfl rfl ?_
      refine b_gr (pc' := 179) tb_X3_noteMatch r_X3_noteMatch_176 tF_19_4_0 rfl ?_
      refine b_gr (pc' := 182) tb_X3_noteMatch r_X3_noteMatch_179 tF_11_9_1 rfl ?_
      refine b_iln (pc' := 183) (a := .inl v3) tb_X3_noteMatch r_X3_noteMatch_182 rfl rfl rfl ?_
      refine b_aln (pc' := 184) (a := .inr (.inr (.inl 19))) tb_X3_noteMatch r_X3_noteMatch_183 rfl rfl rfl ?_
      refine b_gr (pc' := 187) tb_X3_noteMatch r_X3_noteMatch_184 tF_19_4_0 rfl ?_
      refine b_gr (pc' := 190) tb_X3_noteMatch r_X3_noteMatch_187 tF_11_9_1 rfl ?_
      refine b_iln (pc' := 191) (a := .inl v3) tb_X3_noteMatch r_X3_noteMatch_190 rfl rfl rfl ?_
      refine b_ic (pc' := 192) (1) tb_X3_noteMatch r_X3_noteMatch_191 rfl rfl ?_
      refine b_add (pc' := 193) tb_X3_noteMatch r_X3_noteMatch_192 rfl ?_
      refine b_il (pc' := 195) (a := .inl v24) tb_X3_noteMatch r_X3_noteMatch_193 rfl rfl rfl ?_
      refine b_iln (pc' := 196) (a := .inl v3) tb_X3_noteMatch r_X3_noteMatch_195 rfl rfl rfl ?_
      refine b_sub (pc' := 197) tb_X3_noteMatch r_X3_noteMatch_196 rfl ?_
      obtain ⟨v31, ev31, h⟩ := fK_v h
      rw [ev31]
      obtain ⟨v32, ev32, h⟩ := fK_v h
      rw [ev32]
      obtain ⟨M33, _, _, dM33, fM33, cM33, h⟩ := cpK_in h
      refine b_cp (by decide) (pc' := 200) tb_X3_noteMatch r_X3_noteMatch_197 tA_12 rfl dM33 fM33 cM33 rfl ?_
      refine b_aln (pc' := 201) (a := .inr (.inr (.inl 19))) tb_X3_noteMatch r_X3_noteMatch_200 rfl rfl rfl ?_
      refine b_gr (pc' := 204) tb_X3_noteMatch r_X3_noteMatch_201 tF_19_4_0 rfl ?_
      refine b_gr (pc' := 207) tb_X3_noteMatch r_X3_noteMatch_204 tF_11_9_1 rfl ?_
      refine b_iln (pc' := 208) (a := .inl v3) tb_X3_noteMatch r_X3_noteMatch_207 rfl rfl rfl ?_
      refine b_iln (pc' := 209) (a := .inl 0) tb_X3_noteMatch r_X3_noteMatch_208 rfl rfl rfl ?_
      obtain ⟨M34, _, dM34, cM34, h⟩ := sK2_in h
      refine b_is2 (pc' := 210) tb_X3_noteMatch r_X3_noteMatch_209 tA_12 dM34 cM34 rfl ?_
      refine b_aln (pc' := 211) (a := .inr (.inr (.inl 19))) tb_X3_noteMatch r_X3_noteMatch_210 rfl rfl rfl ?_
      refine b_dup (pc' := 212) tb_X3_noteMatch r_X3_noteMatch_211 rfl rfl ?_
      obtain ⟨v35, cv35, h⟩ := rK_in h
      refine b_gi (pc' := 215) tb_X3_noteMatch r_X3_noteMatch_212 tF_19_4_15 cv35 rfl ?_
      refine b_ic (pc' := 216) (1) tb_X3_noteMatch r_X3_noteMatch_215 rfl rfl ?_
      refine b_add (pc' := 217) tb_X3_noteMatch r_X3_noteMatch_216 rfl ?_
      obtain ⟨M36, cM36, h⟩ := pK_in h
      refine b_pi (pc' := 220) tb_X3_noteMatch r_X3_noteMatch_217 rfl tF_19_4_15 cM36 rfl ?_
      exact b_vo tb_X3_noteMatch r_X3_noteMatch_220 (sj h).symm
    · refine b_icF (t := 59) (pc' := 10) tb_X3_noteMatch r_X3_noteMatch_7 rfl ((nGe_c _ _).symm.trans c1) rfl ?_
      refine b_aln (pc' := 11) (a := .inr (.inr (.inl 19))) tb_X3_noteMatch r_X3_noteMatch_10 rfl rfl rfl ?_
      obtain ⟨v37, cv37, h⟩ := rK_in h
      refine b_gi (pc' := 14) tb_X3_noteMatch r_X3_noteMatch_11 tF_19_4_5 cv37 rfl ?_
      refine b_iln (pc' := 15) (a := .inl x1) tb_X3_noteMatch r_X3_noteMatch_14 rfl rfl rfl ?_
      obtain ⟨v38, c1, ev38, h⟩ := hK_in h
      refine b_shr (pc' := 16) tb_X3_noteMatch r_X3_noteMatch_15 c1 ev38 rfl ?_
      refine b_ic (pc' := 17) (1) tb_X3_noteMatch r_X3_noteMatch_16 rfl rfl ?_
      refine b_and (pc' := 18) tb_X3_noteMatch r_X3_noteMatch_17 rfl ?_
      refine b_ic (pc' := 19) (1) tb_X3_noteMatch r_X3_noteMatch_18 rfl rfl ?_
      obtain ⟨c1, h⟩ := bK_t h
      refine b_icT (t := 53) tb_X3_noteMatch r_X3_noteMatch_19 rfl ((nNe_c _ _).symm.trans c1) ?_
      refine b_inc (pc' := 56) (v := x1) (n := 1) [(2, .inl (oAdd x1 1)), (0, .inr (.inr (.inl 19))), (1, .inl 0)] tb_X3_noteMatch r_X3_noteMatch_53 rfl rfl rfl rfl rfl ?_
      obtain ⟨v40, ev40, h⟩ := fK_v h
      rw [ev40]
      refine b_goto (pc' := 4) tb_X3_noteMatch r_X3_noteMatch_56 rfl ?_
      refine b_sub9 [(0, .inr (.inr (.inl 19))), (1, .inl 0), (2, .inl v40)] ⟨rfl, rfl, rfl, trivial⟩ ?_
      exact hj4 _ _ h
  refine b_sub9 [(0, .inr (.inr (.inl 19))), (1, .inl 0), (2, .inl 0)] ⟨rfl, rfl, rfl, trivial⟩ ?_
  exact hj4 _ _ h
noncomputable def m_X3_solve (d : Nat) : Nat → Nat → RN := @Nat.rec (fun _ => Nat → Nat → RN) (fun _ _ => none) (fun _ ih a1 M0 =>
  bK (nNe a1 4294967295) (rK M0 7889 (fun v1 => bK (nLe v1 56) (lK M0 7874 1 a1 (fun v15 => bK (zLe v15) (lK M0 7881 1 a1 (fun v22 => lK2 M0 5731 660 7500 8932 v22 (fun v23 => bK (nGe v23 32) (cV (m_X3_meet ih a1 M0) (fun M26 => pK M26 7889 v1 (fun M27 => some (1, M27)))) none))) none)) none)) (cV (m_X3_noteMatch M0) (fun M28 => some (1, M28)))) d
set_option maxRecDepth 100000 in
theorem snd_X3_solve {l : Launch} {g : GV} {D : va_G} {sl q : Nat} (d : Nat) {a1 M0 : Nat} {r : Nat × Nat} (h : m_X3_solve d a1 M0 = some r) : SN l g D sl (3 * d + 13) 0 q q 42 0 [(0, .inr (.inr (.inl 19))), (1, .inl a1)] [] M0 (PR r) := by
  induction d generalizing a1 M0 r with
  | zero => cases h
  | succ d ih0 =>
    have hih : ∀ (a1 M0 : Nat) (r : Nat × Nat), m_X3_solve d a1 M0 = some r → SN l g D sl (3 * d + 13) 0 q q 42 0 [(0, .inr (.inr (.inl 19))), (1, .inl a1)] [] M0 (PR r) := fun a1 M0 r h => ih0 h
    clear ih0
    refine SN.hup (h := (3 * d + 15 + 1)) (by omega) ?_
    generalize eih : m_X3_solve d = ih at hih
    have h : (fun (ih : Nat → Nat → RN) => (fun (a1 M0 : Nat) =>
  bK (nNe a1 4294967295) (rK M0 7889 (fun v1 => bK (nLe v1 56) (lK M0 7874 1 a1 (fun v15 => bK (zLe v15) (lK M0 7881 1 a1 (fun v22 => lK2 M0 5731 660 7500 8932 v22 (fun v23 => bK (nGe v23 32) (cV (m_X3_meet ih a1 M0) (fun M26 => pK M26 7889 v1 (fun M27 => some (1, M27)))) none))) none)) none)) (cV (m_X3_noteMatch M0) (fun M28 => some (1, M28))))) ih a1 M0 = some r := by rw [← eih]; exact h
    clear eih
    refine b_iln (pc' := 1) (a := .inl a1) tb_X3_solve r_X3_solve_0 rfl rfl rfl ?_
    refine b_ic (pc' := 2) (4294967295) tb_X3_solve r_X3_solve_1 rfl rfl ?_
    rcases bK_in h with ⟨c1, h⟩ | ⟨c1, h⟩
    · refine b_icT (t := 10) tb_X3_solve r_X3_solve_2 rfl ((nNe_c _ _).symm.trans c1) ?_
      refine b_aln (pc' := 11) (a := .inr (.inr (.inl 19))) tb_X3_solve r_X3_solve_10 rfl rfl rfl ?_
      obtain ⟨v1, cv1, h⟩ := rK_in h
      refine b_gi (pc' := 14) tb_X3_solve r_X3_solve_11 tF_19_4_12 cv1 rfl ?_
      refine b_stn (pc' := 15) [(2, .inl v1), (0, .inr (.inr (.inl 19))), (1, .inl a1)] tb_X3_solve r_X3_solve_14 rfl rfl rfl rfl ?_
      refine b_iln (pc' := 16) (a := .inl v1) tb_X3_solve r_X3_solve_15 rfl rfl rfl ?_
      refine b_bi (pc' := 18) (56) tb_X3_solve r_X3_solve_16 rfl rfl rfl ?_
      obtain ⟨c1, h⟩ := bK_t h
      refine b_icT (t := 22) tb_X3_solve r_X3_solve_18 rfl ((nLe_c _ _).symm.trans c1) ?_
      refine b_aln (pc' := 23) (a := .inr (.inr (.inl 19))) tb_X3_solve r_X3_solve_22 rfl rfl rfl ?_
      refine b_gr (pc' := 26) tb_X3_solve r_X3_solve_23 tF_19_4_9 rfl ?_
      refine b_iln (pc' := 27) (a := .inl a1) tb_X3_solve r_X3_solve_26 rfl rfl rfl ?_
      obtain ⟨v15, dv15, cv15, h⟩ := lK_in h
      refine b_ia (pc' := 28) tb_X3_solve r_X3_solve_27 tA_25 dv15 cv15 rfl ?_
      obtain ⟨c1, h⟩ := bK_t h
      refine b_ifT (t := 39) tb_X3_solve r_X3_solve_28 rfl ((zLe_c _).symm.trans c1) ?_
      refine b_aln (pc' := 40) (a := .inr (.inr (.inl 19))) tb_X3_solve r_X3_solve_39 rfl rfl rfl ?_
      refine b_gr (pc' := 43) tb_X3_solve r_X3_solve_40 tF_19_4_0 rfl ?_
      refine b_gr (pc' := 46) tb_X3_solve r_X3_solve_43 tF_11_9_1 rfl ?_
      refine b_aln (pc' := 47) (a := .inr (.inr (.inl 19))) tb_X3_solve r_X3_solve_46 rfl rfl rfl ?_
      refine b_gr (pc' := 50) tb_X3_solve r_X3_solve_47 tF_19_4_6 rfl ?_
      refine b_iln (pc' := 51) (a := .inl a1) tb_X3_solve r_X3_solve_50 rfl rfl rfl ?_
      obtain ⟨v22, dv22, cv22, h⟩ := lK_in h
      refine b_ia (pc' := 52) tb_X3_solve r_X3_solve_51 tA_22 dv22 cv22 rfl ?_
      obtain ⟨v23, _, dv23, cv23, h⟩ := lK2_in h
      refine b_ia2 (pc' := 53) tb_X3_solve r_X3_solve_52 tA_12 dv23 cv23 rfl ?_
      refine b_bi (pc' := 55) (32) tb_X3_solve r_X3_solve_53 rfl rfl rfl ?_
      obtain ⟨c1, h⟩ := bK_t h
      refine b_icT (t := 66) tb_X3_solve r_X3_solve_55 rfl ((nGe_c _ _).symm.trans c1) ?_
      refine b_aln (pc' := 67) (a := .inr (.inr (.inl 19))) tb_X3_solve r_X3_solve_66 rfl rfl rfl ?_
      refine b_iln (pc' := 68) (a := .inl a1) tb_X3_solve r_X3_solve_67 rfl rfl rfl ?_
      obtain ⟨M26, oM26, h⟩ := cV_in h
      refine b_vV (pc' := 71) tb_X3_solve r_X3_solve_68 tb_X3_meet mo_X3_meet (by decide) rfl rfl oM26 (fun r hr => snd_X3_meet (sv := ih) hih (by omega) hr) (by omega) rfl rfl rfl ?_
      refine b_aln (pc' := 72) (a := .inr (.inr (.inl 19))) tb_X3_solve r_X3_solve_71 rfl rfl rfl ?_
      refine b_iln (pc' := 73) (a := .inl v1) tb_X3_solve r_X3_solve_72 rfl rfl rfl ?_
      obtain ⟨M27, cM27, h⟩ := pK_in h
      refine b_pi (pc' := 76) tb_X3_solve r_X3_solve_73 rfl tF_19_4_12 cM27 rfl ?_
      exact b_vo tb_X3_solve r_X3_solve_76 (sj h).symm
    · refine b_icF (t := 10) (pc' := 5) tb_X3_solve r_X3_solve_2 rfl ((nNe_c _ _).symm.trans c1) rfl ?_
      refine b_aln (pc' := 6) (a := .inr (.inr (.inl 19))) tb_X3_solve r_X3_solve_5 rfl rfl rfl ?_
      obtain ⟨M28, oM28, h⟩ := cV_in h
      refine b_vV (pc' := 9) tb_X3_solve r_X3_solve_6 tb_X3_noteMatch mo_X3_noteMatch (by decide) rfl rfl oM28 (fun r hr => snd_X3_noteMatch hr) (by omega) rfl rfl rfl ?_
      exact b_vo tb_X3_solve r_X3_solve_9 (sj h).symm
noncomputable def m_X7_resultOf (a1 a2 a3 a4 : Nat) (M0 : Nat) : RN :=
  lK M0 7823 1 a1 (fun v1 => lK M0 7824 1 a1 (fun v2 => bK (nGe 0 v2) (some (Nat.add 4294967295 2, M0)) none))
set_option maxRecDepth 100000 in
theorem snd_X7_resultOf {l : Launch} {g : GV} {D : va_G} {sl q : Nat} {a1 a2 a3 a4 M0 : Nat} {r : Nat × Nat} (h : m_X7_resultOf a1 a2 a3 a4 M0 = some r) : SN l g D sl 9 0 q q 48 0 [(0, .inr (.inr (.inl 1))), (1, .inl a1), (2, .inl a2), (3, .inl a3), (4, .inl a4)] [] M0 (PR r) := by
  unfold m_X7_resultOf at h
  refine b_aln (pc' := 1) (a := .inr (.inr (.inl 1))) tb_X7_resultOf r_X7_resultOf_0 rfl rfl rfl ?_
  refine b_gr (pc' := 4) tb_X7_resultOf r_X7_resultOf_1 tF_1_8_4 rfl ?_
  refine b_iln (pc' := 5) (a := .inl a1) tb_X7_resultOf r_X7_resultOf_4 rfl rfl rfl ?_
  obtain ⟨v1, dv1, cv1, h⟩ := lK_in h
  refine b_ia (pc' := 6) tb_X7_resultOf r_X7_resultOf_5 tA_4 dv1 cv1 rfl ?_
  refine b_st (pc' := 8) [(5, .inl v1), (0, .inr (.inr (.inl 1))), (1, .inl a1), (2, .inl a2), (3, .inl a3), (4, .inl a4)] tb_X7_resultOf r_X7_resultOf_6 rfl rfl rfl rfl ?_
  refine b_ic (pc' := 9) (0) tb_X7_resultOf r_X7_resultOf_8 rfl rfl ?_
  refine b_st (pc' := 11) [(6, .inl 0), (5, .inl v1), (0, .inr (.inr (.inl 1))), (1, .inl a1), (2, .inl a2), (3, .inl a3), (4, .inl a4)] tb_X7_resultOf r_X7_resultOf_9 rfl rfl rfl rfl ?_
  refine b_il (pc' := 13) (a := .inl 0) tb_X7_resultOf r_X7_resultOf_11 rfl rfl rfl ?_
  refine b_aln (pc' := 14) (a := .inr (.inr (.inl 1))) tb_X7_resultOf r_X7_resultOf_13 rfl rfl rfl ?_
  refine b_gr (pc' := 17) tb_X7_resultOf r_X7_resultOf_14 tF_1_8_7 rfl ?_
  refine b_iln (pc' := 18) (a := .inl a1) tb_X7_resultOf r_X7_resultOf_17 rfl rfl rfl ?_
  obtain ⟨v2, dv2, cv2, h⟩ := lK_in h
  refine b_ia (pc' := 19) tb_X7_resultOf r_X7_resultOf_18 tA_7 dv2 cv2 rfl ?_
  obtain ⟨c1, h⟩ := bK_t h
  refine b_icT (t := 208) tb_X7_resultOf r_X7_resultOf_19 rfl ((nGe_c _ _).symm.trans c1) ?_
  refine b_ic (pc' := 209) (4294967295) tb_X7_resultOf r_X7_resultOf_208 rfl rfl ?_
  exact b_ri tb_X7_resultOf r_X7_resultOf_209 rfl (sj h).symm
noncomputable def m_X8_sortAt (d : Nat) : Nat → Nat → RN := @Nat.rec (fun _ => Nat → Nat → RN) (fun _ _ => none) (fun _ ih a1 M0 =>
  lK2 M0 5731 660 7500 8932 a1 (fun v1 => bK (nGe v1 32) (cI (m_X10_operatorIn v1 M0) (fun v87 M86 => dvK Nat.mod v1 8 (fun v88 => fK (oAdd a1 1) (fun v89 => bK (zLe v88) (bK (zLe v88) (bK (nLe v88 1) (bK (nLe v88 1) (lK M86 7886 2 v87 (fun v165 => bK (nGe v165 2) none (bK (nLe v88 2) (cI (m_X7_resultOf v87 4294967295 4294967295 4294967295 M86) (fun v169 M168 => some (Nat.add v169 2, M168))) none))) none) none) none) none)))) none)) d
set_option maxRecDepth 100000 in
theorem snd_X8_sortAt {l : Launch} {g : GV} {D : va_G} {sl q : Nat} (d : Nat) {a1 M0 : Nat} {r : Nat × Nat} (h : m_X8_sortAt d a1 M0 = some r) : SN l g D sl (d + 13) 0 q q 29 0 [(0, .inr (.inr (.inl 11))), (1, .inl a1)] [] M0 (PR r) := by
  induction d generalizing a1 M0 r with
  | zero => cases h
  | succ d ih0 =>
    have hih : ∀ (a1 M0 : Nat) (r : Nat × Nat), m_X8_sortAt d a1 M0 = some r → SN l g D sl (d + 13) 0 q q 29 0 [(0, .inr (.inr (.inl 11))), (1, .inl a1)] [] M0 (PR r) := fun a1 M0 r h => ih0 h
    clear ih0
    refine SN.hup (h := (d + 13 + 1)) (by omega) ?_
    generalize eih : m_X8_sortAt d = ih at hih
    have h : (fun (ih : Nat → Nat → RN) => (fun (a1 M0 : Nat) =>
  lK2 M0 5731 660 7500 8932 a1 (fun v1 => bK (nGe v1 32) (cI (m_X10_operatorIn v1 M0) (fun v87 M86 => dvK Nat.mod v1 8 (fun v88 => fK (oAdd a1 1) (fun v89 => bK (zLe v88) (bK (zLe v88) (bK (nLe v88 1) (bK (nLe v88 1) (lK M86 7886 2 v87 (fun v165 => bK (nGe v165 2) none (bK (nLe v88 2) (cI (m_X7_resultOf v87 4294967295 4294967295 4294967295 M86) (fun v169 M168 => some (Nat.add v169 2, M168))) none))) none) none) none) none)))) none))) ih a1 M0 = some r := by rw [← eih]; exact h
    clear eih
    refine b_aln (pc' := 1) (a := .inr (.inr (.inl 11))) tb_X8_sortAt r_X8_sortAt_0 rfl rfl rfl ?_
    refine b_gr (pc' := 4) tb_X8_sortAt r_X8_sortAt_1 tF_11_9_1 rfl ?_
    refine b_iln (pc' := 5) (a := .inl a1) tb_X8_sortAt r_X8_sortAt_4 rfl rfl rfl ?_
    obtain ⟨v1, _, dv1, cv1, h⟩ := lK2_in h
    refine b_ia2 (pc' := 6) tb_X8_sortAt r_X8_sortAt_5 tA_12 dv1 cv1 rfl ?_
    refine b_stn (pc' := 7) [(2, .inl v1), (0, .inr (.inr (.inl 11))), (1, .inl a1)] tb_X8_sortAt r_X8_sortAt_6 rfl rfl rfl rfl ?_
    refine b_iln (pc' := 8) (a := .inl v1) tb_X8_sortAt r_X8_sortAt_7 rfl rfl rfl ?_
    refine b_bi (pc' := 10) (32) tb_X8_sortAt r_X8_sortAt_8 rfl rfl rfl ?_
    obtain ⟨c1, h⟩ := bK_t h
    refine b_icT (t := 26) tb_X8_sortAt r_X8_sortAt_10 rfl ((nGe_c _ _).symm.trans c1) ?_
    refine b_iln (pc' := 27) (a := .inl v1) tb_X8_sortAt r_X8_sortAt_26 rfl rfl rfl ?_
    obtain ⟨v87, M86, ov87, h⟩ := cI_in h
    refine b_sI (pc' := 30) tb_X8_sortAt r_X8_sortAt_27 tb_X10_operatorIn mo_X10_operatorIn (by decide) rfl rfl ov87 (fun r hr => snd_X10_operatorIn hr) (by omega) rfl rfl rfl ?_
    refine b_stn (pc' := 31) [(3, .inl v87), (2, .inl v1), (0, .inr (.inr (.inl 11))), (1, .inl a1)] tb_X8_sortAt r_X8_sortAt_30 rfl rfl rfl rfl ?_
    refine b_iln (pc' := 32) (a := .inl v1) tb_X8_sortAt r_X8_sortAt_31 rfl rfl rfl ?_
    refine b_bi (pc' := 34) (8) tb_X8_sortAt r_X8_sortAt_32 rfl rfl rfl ?_
    obtain ⟨v88, c1, c2, c3, ev88, h⟩ := dvK_in h
    refine b_rem (pc' := 35) tb_X8_sortAt r_X8_sortAt_34 c1 c2 c3 ev88 rfl ?_
    refine b_st (pc' := 37) [(4, .inl v88), (3, .inl v87), (2, .inl v1), (0, .inr (.inr (.inl 11))), (1, .inl a1)] tb_X8_sortAt r_X8_sortAt_35 rfl rfl rfl rfl ?_
    refine b_iln (pc' := 38) (a := .inl a1) tb_X8_sortAt r_X8_sortAt_37 rfl rfl rfl ?_
    refine b_ic (pc' := 39) (1) tb_X8_sortAt r_X8_sortAt_38 rfl rfl ?_
    refine b_add (pc' := 40) tb_X8_sortAt r_X8_sortAt_39 rfl ?_
    obtain ⟨v89, ev89, h⟩ := fK_v h
    rw [ev89]
    refine b_st (pc' := 42) [(5, .inl v89), (4, .inl v88), (3, .inl v87), (2, .inl v1), (0, .inr (.inr (.inl 11))), (1, .inl a1)] tb_X8_sortAt r_X8_sortAt_40 rfl rfl rfl rfl ?_
    refine b_il (pc' := 44) (a := .inl v88) tb_X8_sortAt r_X8_sortAt_42 rfl rfl rfl ?_
    obtain ⟨c1, h⟩ := bK_t h
    refine b_ifT (t := 56) tb_X8_sortAt r_X8_sortAt_44 rfl ((zLe_c _).symm.trans c1) ?_
    refine b_ic (pc' := 57) (4294967295) tb_X8_sortAt r_X8_sortAt_56 rfl rfl ?_
    refine b_st (pc' := 59) [(6, .inl 4294967295), (5, .inl v89), (4, .inl v88), (3, .inl v87), (2, .inl v1), (0, .inr (.inr (.inl 11))), (1, .inl a1)] tb_X8_sortAt r_X8_sortAt_57 rfl rfl rfl rfl ?_
    refine b_il (pc' := 61) (a := .inl v88) tb_X8_sortAt r_X8_sortAt_59 rfl rfl rfl ?_
    obtain ⟨c1, h⟩ := bK_t h
    refine b_ifT (t := 73) tb_X8_sortAt r_X8_sortAt_61 rfl ((zLe_c _).symm.trans c1) ?_
    refine b_il (pc' := 75) (a := .inl v89) tb_X8_sortAt r_X8_sortAt_73 rfl rfl rfl ?_
    refine b_st (pc' := 77) [(5, .inl v89), (6, .inl 4294967295), (4, .inl v88), (3, .inl v87), (2, .inl v1), (0, .inr (.inr (.inl 11))), (1, .inl a1)] tb_X8_sortAt r_X8_sortAt_75 rfl rfl rfl rfl ?_
    refine b_il (pc' := 79) (a := .inl v88) tb_X8_sortAt r_X8_sortAt_77 rfl rfl rfl ?_
    refine b_ic (pc' := 80) (1) tb_X8_sortAt r_X8_sortAt_79 rfl rfl ?_
    obtain ⟨c1, h⟩ := bK_t h
    refine b_icT (t := 92) tb_X8_sortAt r_X8_sortAt_80 rfl ((nLe_c _ _).symm.trans c1) ?_
    refine b_ic (pc' := 93) (4294967295) tb_X8_sortAt r_X8_sortAt_92 rfl rfl ?_
    refine b_st (pc' := 95) [(7, .inl 4294967295), (5, .inl v89), (6, .inl 4294967295), (4, .inl v88), (3, .inl v87), (2, .inl v1), (0, .inr (.inr (.inl 11))), (1, .inl a1)] tb_X8_sortAt r_X8_sortAt_93 rfl rfl rfl rfl ?_
    refine b_il (pc' := 97) (a := .inl v88) tb_X8_sortAt r_X8_sortAt_95 rfl rfl rfl ?_
    refine b_ic (pc' := 98) (1) tb_X8_sortAt r_X8_sortAt_97 rfl rfl ?_
    obtain ⟨c1, h⟩ := bK_t h
    refine b_icT (t := 110) tb_X8_sortAt r_X8_sortAt_98 rfl ((nLe_c _ _).symm.trans c1) ?_
    refine b_il (pc' := 112) (a := .inl v89) tb_X8_sortAt r_X8_sortAt_110 rfl rfl rfl ?_
    refine b_st (pc' := 114) [(5, .inl v89), (7, .inl 4294967295), (6, .inl 4294967295), (4, .inl v88), (3, .inl v87), (2, .inl v1), (0, .inr (.inr (.inl 11))), (1, .inl a1)] tb_X8_sortAt r_X8_sortAt_112 rfl rfl rfl rfl ?_
    refine b_aln (pc' := 115) (a := .inr (.inr (.inl 11))) tb_X8_sortAt r_X8_sortAt_114 rfl rfl rfl ?_
    refine b_gr (pc' := 118) tb_X8_sortAt r_X8_sortAt_115 tF_11_9_0 rfl ?_
    refine b_gr (pc' := 121) tb_X8_sortAt r_X8_sortAt_118 tF_1_8_5 rfl ?_
    refine b_iln (pc' := 122) (a := .inl v87) tb_X8_sortAt r_X8_sortAt_121 rfl rfl rfl ?_
    obtain ⟨v165, dv165, cv165, h⟩ := lK_in h
    refine b_ia (pc' := 123) tb_X8_sortAt r_X8_sortAt_122 tA_5 dv165 cv165 rfl ?_
    refine b_ic (pc' := 124) (2) tb_X8_sortAt r_X8_sortAt_123 rfl rfl ?_
    obtain ⟨c1, h⟩ := bK_f h
    refine b_icF (t := 156) (pc' := 127) tb_X8_sortAt r_X8_sortAt_124 rfl ((nGe_c _ _).symm.trans c1) rfl ?_
    refine b_aln (pc' := 128) (a := .inr (.inr (.inl 11))) tb_X8_sortAt r_X8_sortAt_127 rfl rfl rfl ?_
    refine b_gr (pc' := 131) tb_X8_sortAt r_X8_sortAt_128 tF_11_9_0 rfl ?_
    refine b_iln (pc' := 132) (a := .inl v87) tb_X8_sortAt r_X8_sortAt_131 rfl rfl rfl ?_
    refine b_il (pc' := 134) (a := .inl 4294967295) tb_X8_sortAt r_X8_sortAt_132 rfl rfl rfl ?_
    refine b_il (pc' := 136) (a := .inl 4294967295) tb_X8_sortAt r_X8_sortAt_134 rfl rfl rfl ?_
    refine b_il (pc' := 138) (a := .inl v88) tb_X8_sortAt r_X8_sortAt_136 rfl rfl rfl ?_
    refine b_ic (pc' := 139) (2) tb_X8_sortAt r_X8_sortAt_138 rfl rfl ?_
    obtain ⟨c1, h⟩ := bK_t h
    refine b_icT (t := 151) tb_X8_sortAt r_X8_sortAt_139 rfl ((nLe_c _ _).symm.trans c1) ?_
    refine b_ic (pc' := 152) (4294967295) tb_X8_sortAt r_X8_sortAt_151 rfl rfl ?_
    obtain ⟨v169, M168, ov169, h⟩ := cI_in h
    refine b_vI (pc' := 155) tb_X8_sortAt r_X8_sortAt_152 tb_X7_resultOf mo_X7_resultOf (by decide) rfl rfl ov169 (fun r hr => snd_X7_resultOf hr) (by omega) rfl rfl rfl ?_
    exact b_ri tb_X8_sortAt r_X8_sortAt_155 rfl (sj h).symm
noncomputable def m_X3_list (a1 a2 : Nat) (M0 : Nat) : RN :=
  cV (m_X4_collect a2 M0) (fun M1 => cV (m_X4_addParts M1) (fun M2 => cV (m_X4_addIdentities M2) (fun M3 => cV (m_X4_rankAll M3) (fun M4 => lp (fun _ _ => none) (fun (j31 : (Nat →  Nat → RN)) => fun (x5 : Nat) (M6 : Nat) => rK M6 7894 (fun v7 => bK (nGe x5 v7) (rK M6 7895 (fun v8 => pK M6 7891 v8 (fun M9 => rK M9 7903 (fun v10 => pK M9 7890 v10 (fun M11 => pK M11 7892 0 (fun M12 => pK M12 7889 0 (fun M13 => cI (m_X8_variablesAt a1 M13) (fun v15 M14 => pK M14 7888 v15 (fun M16 => cV (m_J7_fill_53178_21 4294967295 M16) (fun M17 => lK M17 7876 1 0 (fun v18 => cI (m_X3_addDuty a1 v18 4294967295 M17) (fun v20 M19 => cV (m_X3_solve 8 v20 M19) (fun M21 => rK M21 7890 (fun v22 => rK M21 7892 (fun v23 => pK M21 7903 (oAdd v22 v23) (fun M24 => rK M24 7892 (fun v25 => some (Nat.add v25 2, M24)))))))))))))))))) (lK M6 7883 1 x5 (fun v26 => lK M6 7879 1 v26 (fun v27 => cI (m_X8_sortAt 4 v27 M6) (fun v29 M28 => sK M28 7826 1 v26 v29 (fun M30 => fK (oAdd x5 1) (fun v31 => j31 v31 M30)))))))) (fun (j31 : (Nat →  Nat → RN)) => j31 0 M4)))))
set_option maxRecDepth 100000 in
theorem snd_X3_list {l : Launch} {g : GV} {D : va_G} {sl q : Nat} {a1 a2 M0 : Nat} {r : Nat × Nat} (h : m_X3_list a1 a2 M0 = some r) : SN l g D sl 38 0 q q 21 0 [(0, .inr (.inr (.inl 19))), (1, .inl a1), (2, .inl a2)] [] M0 (PR r) := by
  unfold m_X3_list at h
  refine b_aln (pc' := 1) (a := .inr (.inr (.inl 19))) tb_X3_list r_X3_list_0 rfl rfl rfl ?_
  refine b_gr (pc' := 4) tb_X3_list r_X3_list_1 tF_19_4_2 rfl ?_
  refine b_iln (pc' := 5) (a := .inl a2) tb_X3_list r_X3_list_4 rfl rfl rfl ?_
  obtain ⟨M1, oM1, h⟩ := cV_in h
  refine b_vV (pc' := 8) tb_X3_list r_X3_list_5 tb_X4_collect mo_X4_collect (by decide) rfl rfl oM1 (fun r hr => snd_X4_collect hr) (by decide) rfl rfl rfl ?_
  refine b_aln (pc' := 9) (a := .inr (.inr (.inl 19))) tb_X3_list r_X3_list_8 rfl rfl rfl ?_
  refine b_gr (pc' := 12) tb_X3_list r_X3_list_9 tF_19_4_2 rfl ?_
  obtain ⟨M2, oM2, h⟩ := cV_in h
  refine b_vV (pc' := 15) tb_X3_list r_X3_list_12 tb_X4_addParts mo_X4_addParts (by decide) rfl rfl oM2 (fun r hr => snd_X4_addParts hr) (by decide) rfl rfl rfl ?_
  refine b_aln (pc' := 16) (a := .inr (.inr (.inl 19))) tb_X3_list r_X3_list_15 rfl rfl rfl ?_
  refine b_gr (pc' := 19) tb_X3_list r_X3_list_16 tF_19_4_2 rfl ?_
  obtain ⟨M3, oM3, h⟩ := cV_in h
  refine b_vV (pc' := 22) tb_X3_list r_X3_list_19 tb_X4_addIdentities mo_X4_addIdentities (by decide) rfl rfl oM3 (fun r hr => snd_X4_addIdentities hr) (by decide) rfl rfl rfl ?_
  refine b_aln (pc' := 23) (a := .inr (.inr (.inl 19))) tb_X3_list r_X3_list_22 rfl rfl rfl ?_
  refine b_gr (pc' := 26) tb_X3_list r_X3_list_23 tF_19_4_2 rfl ?_
  obtain ⟨M4, oM4, h⟩ := cV_in h
  refine b_vV (pc' := 29) tb_X3_list r_X3_list_26 tb_X4_rankAll mo_X4_rankAll (by decide) rfl rfl oM4 (fun r hr => snd_X4_rankAll hr) (by decide) rfl rfl rfl ?_
  refine b_ic (pc' := 30) (0) tb_X3_list r_X3_list_29 rfl rfl ?_
  refine b_stn (pc' := 31) [(3, .inl 0), (0, .inr (.inr (.inl 19))), (1, .inl a1), (2, .inl a2)] tb_X3_list r_X3_list_30 rfl rfl rfl rfl ?_
  refine lp_in (R := fun (j31 : (Nat → Nat → RN)) => ∀ (x5 M6 : Nat), j31 x5 M6 = some r → SN l g D sl 38 0 q q 21 31 [(0, .inr (.inr (.inl 19))), (1, .inl a1), (3, .inl x5)] [] M6 (PR r)) h (fun _ _ h => by cases h) (fun j31 hj31 => ?_) (fun j31 hj31 h => ?_)
  · intro x5 M6 h
    refine b_iln (pc' := 32) (a := .inl x5) tb_X3_list r_X3_list_31 rfl rfl rfl ?_
    refine b_aln (pc' := 33) (a := .inr (.inr (.inl 19))) tb_X3_list r_X3_list_32 rfl rfl rfl ?_
    refine b_gr (pc' := 36) tb_X3_list r_X3_list_33 tF_19_4_2 rfl ?_
    obtain ⟨v7, cv7, h⟩ := rK_in h
    refine b_gi (pc' := 39) tb_X3_list r_X3_list_36 tF_28_5_9 cv7 rfl ?_
    rcases bK_in h with ⟨c1, h⟩ | ⟨c1, h⟩
    · refine b_icT (t := 83) tb_X3_list r_X3_list_39 rfl ((nGe_c _ _).symm.trans c1) ?_
      refine b_aln (pc' := 84) (a := .inr (.inr (.inl 19))) tb_X3_list r_X3_list_83 rfl rfl rfl ?_
      refine b_aln (pc' := 85) (a := .inr (.inr (.inl 19))) tb_X3_list r_X3_list_84 rfl rfl rfl ?_
      refine b_gr (pc' := 88) tb_X3_list r_X3_list_85 tF_19_4_2 rfl ?_
      obtain ⟨v8, cv8, h⟩ := rK_in h
      refine b_gi (pc' := 91) tb_X3_list r_X3_list_88 tF_28_5_15 cv8 rfl ?_
      obtain ⟨M9, cM9, h⟩ := pK_in h
      refine b_pi (pc' := 94) tb_X3_list r_X3_list_91 rfl tF_19_4_14 cM9 rfl ?_
      refine b_aln (pc' := 95) (a := .inr (.inr (.inl 19))) tb_X3_list r_X3_list_94 rfl rfl rfl ?_
      refine b_aln (pc' := 96) (a := .inr (.inr (.inl 19))) tb_X3_list r_X3_list_95 rfl rfl rfl ?_
      refine b_gr (pc' := 99) tb_X3_list r_X3_list_96 tF_19_4_0 rfl ?_
      obtain ⟨v10, cv10, h⟩ := rK_in h
      refine b_gi (pc' := 102) tb_X3_list r_X3_list_99 tF_11_9_2 cv10 rfl ?_
      obtain ⟨M11, cM11, h⟩ := pK_in h
      refine b_pi (pc' := 105) tb_X3_list r_X3_list_102 rfl tF_19_4_13 cM11 rfl ?_
      refine b_aln (pc' := 106) (a := .inr (.inr (.inl 19))) tb_X3_list r_X3_list_105 rfl rfl rfl ?_
      refine b_ic (pc' := 107) (0) tb_X3_list r_X3_list_106 rfl rfl ?_
      obtain ⟨M12, cM12, h⟩ := pK_in h
      refine b_pi (pc' := 110) tb_X3_list r_X3_list_107 rfl tF_19_4_15 cM12 rfl ?_
      refine b_aln (pc' := 111) (a := .inr (.inr (.inl 19))) tb_X3_list r_X3_list_110 rfl rfl rfl ?_
      refine b_ic (pc' := 112) (0) tb_X3_list r_X3_list_111 rfl rfl ?_
      obtain ⟨M13, cM13, h⟩ := pK_in h
      refine b_pi (pc' := 115) tb_X3_list r_X3_list_112 rfl tF_19_4_12 cM13 rfl ?_
      refine b_aln (pc' := 116) (a := .inr (.inr (.inl 19))) tb_X3_list r_X3_list_115 rfl rfl rfl ?_
      refine b_aln (pc' := 117) (a := .inr (.inr (.inl 19))) tb_X3_list r_X3_list_116 rfl rfl rfl ?_
      refine b_gr (pc' := 120) tb_X3_list r_X3_list_117 tF_19_4_0 rfl ?_
      refine b_iln (pc' := 121) (a := .inl a1) tb_X3_list r_X3_list_120 rfl rfl rfl ?_
      obtain ⟨v15, M14, ov15, h⟩ := cI_in h
      refine b_vI (pc' := 124) tb_X3_list r_X3_list_121 tb_X8_variablesAt mo_X8_variablesAt (by decide) rfl rfl ov15 (fun r hr => snd_X8_variablesAt hr) (by decide) rfl rfl rfl ?_
      obtain ⟨M16, cM16, h⟩ := pK_in h
      refine b_pi (pc' := 127) tb_X3_list r_X3_list_124 rfl tF_19_4_5 cM16 rfl ?_
      refine b_aln (pc' := 128) (a := .inr (.inr (.inl 19))) tb_X3_list r_X3_list_127 rfl rfl rfl ?_
      refine b_gr (pc' := 131) tb_X3_list r_X3_list_128 tF_19_4_4 rfl ?_
      refine b_ic (pc' := 132) (4294967295) tb_X3_list r_X3_list_131 rfl rfl ?_
      obtain ⟨M17, oM17, h⟩ := cV_in h
      refine b_sV (pc' := 135) tb_X3_list r_X3_list_132 tb_J7_fill_53178 mo_J7_fill_53178 (by decide) rfl rfl oM17 (fun r hr => snd_J7_fill_53178_21 hr) (by decide) rfl rfl rfl ?_
      refine b_aln (pc' := 136) (a := .inr (.inr (.inl 19))) tb_X3_list r_X3_list_135 rfl rfl rfl ?_
      refine b_aln (pc' := 137) (a := .inr (.inr (.inl 19))) tb_X3_list r_X3_list_136 rfl rfl rfl ?_
      refine b_iln (pc' := 138) (a := .inl a1) tb_X3_list r_X3_list_137 rfl rfl rfl ?_
      refine b_aln (pc' := 139) (a := .inr (.inr (.inl 19))) tb_X3_list r_X3_list_138 rfl rfl rfl ?_
      refine b_gr (pc' := 142) tb_X3_list r_X3_list_139 tF_19_4_2 rfl ?_
      refine b_gr (pc' := 145) tb_X3_list r_X3_list_142 tF_28_5_8 rfl ?_
      refine b_ic (pc' := 146) (0) tb_X3_list r_X3_list_145 rfl rfl ?_
      obtain ⟨v18, dv18, cv18, h⟩ := lK_in h
      refine b_ia (pc' := 147) tb_X3_list r_X3_list_146 tA_34 dv18 cv18 rfl ?_
      refine b_ic (pc' := 148) (4294967295) tb_X3_list r_X3_list_147 rfl rfl ?_
      obtain ⟨v20, M19, ov20, h⟩ := cI_in h
      refine b_vI (pc' := 151) tb_X3_list r_X3_list_148 tb_X3_addDuty mo_X3_addDuty (by decide) rfl rfl ov20 (fun r hr => snd_X3_addDuty hr) (by decide) rfl rfl rfl ?_
      obtain ⟨M21, oM21, h⟩ := cV_in h
      refine b_vV (pc' := 154) tb_X3_list r_X3_list_151 tb_X3_solve mo_X3_solve (by decide) rfl rfl oM21 (fun r hr => snd_X3_solve _ hr) (by decide) rfl rfl rfl ?_
      refine b_aln (pc' := 155) (a := .inr (.inr (.inl 19))) tb_X3_list r_X3_list_154 rfl rfl rfl ?_
      refine b_gr (pc' := 158) tb_X3_list r_X3_list_155 tF_19_4_0 rfl ?_
      refine b_aln (pc' := 159) (a := .inr (.inr (.inl 19))) tb_X3_list r_X3_list_158 rfl rfl rfl ?_
      obtain ⟨v22, cv22, h⟩ := rK_in h
      refine b_gi (pc' := 162) tb_X3_list r_X3_list_159 tF_19_4_13 cv22 rfl ?_
      refine b_aln (pc' := 163) (a := .inr (.inr (.inl 19))) tb_X3_list r_X3_list_162 rfl rfl rfl ?_
      obtain ⟨v23, cv23, h⟩ := rK_in h
      refine b_gi (pc' := 166) tb_X3_list r_X3_list_163 tF_19_4_15 cv23 rfl ?_
      refine b_add (pc' := 167) tb_X3_list r_X3_list_166 rfl ?_
      obtain ⟨M24, cM24, h⟩ := pK_in h
      refine b_pi (pc' := 170) tb_X3_list r_X3_list_167 rfl tF_11_9_2 cM24 rfl ?_
      refine b_aln (pc' := 171) (a := .inr (.inr (.inl 19))) tb_X3_list r_X3_list_170 rfl rfl rfl ?_
      obtain ⟨v25, cv25, h⟩ := rK_in h
      refine b_gi (pc' := 174) tb_X3_list r_X3_list_171 tF_19_4_15 cv25 rfl ?_
      exact b_ri tb_X3_list r_X3_list_174 rfl (sj h).symm
    · refine b_icF (t := 83) (pc' := 42) tb_X3_list r_X3_list_39 rfl ((nGe_c _ _).symm.trans c1) rfl ?_
      refine b_aln (pc' := 43) (a := .inr (.inr (.inl 19))) tb_X3_list r_X3_list_42 rfl rfl rfl ?_
      refine b_gr (pc' := 46) tb_X3_list r_X3_list_43 tF_19_4_2 rfl ?_
      refine b_gr (pc' := 49) tb_X3_list r_X3_list_46 tF_28_5_10 rfl ?_
      refine b_iln (pc' := 50) (a := .inl x5) tb_X3_list r_X3_list_49 rfl rfl rfl ?_
      obtain ⟨v26, dv26, cv26, h⟩ := lK_in h
      refine b_ia (pc' := 51) tb_X3_list r_X3_list_50 tA_35 dv26 cv26 rfl ?_
      refine b_st (pc' := 53) [(4, .inl v26), (0, .inr (.inr (.inl 19))), (1, .inl a1), (3, .inl x5)] tb_X3_list r_X3_list_51 rfl rfl rfl rfl ?_
      refine b_aln (pc' := 54) (a := .inr (.inr (.inl 19))) tb_X3_list r_X3_list_53 rfl rfl rfl ?_
      refine b_gr (pc' := 57) tb_X3_list r_X3_list_54 tF_19_4_3 rfl ?_
      refine b_il (pc' := 59) (a := .inl v26) tb_X3_list r_X3_list_57 rfl rfl rfl ?_
      refine b_aln (pc' := 60) (a := .inr (.inr (.inl 19))) tb_X3_list r_X3_list_59 rfl rfl rfl ?_
      refine b_gr (pc' := 63) tb_X3_list r_X3_list_60 tF_19_4_0 rfl ?_
      refine b_aln (pc' := 64) (a := .inr (.inr (.inl 19))) tb_X3_list r_X3_list_63 rfl rfl rfl ?_
      refine b_gr (pc' := 67) tb_X3_list r_X3_list_64 tF_19_4_2 rfl ?_
      refine b_gr (pc' := 70) tb_X3_list r_X3_list_67 tF_28_5_3 rfl ?_
      refine b_il (pc' := 72) (a := .inl v26) tb_X3_list r_X3_list_70 rfl rfl rfl ?_
      obtain ⟨v27, dv27, cv27, h⟩ := lK_in h
      refine b_ia (pc' := 73) tb_X3_list r_X3_list_72 tA_29 dv27 cv27 rfl ?_
      obtain ⟨v29, M28, ov29, h⟩ := cI_in h
      refine b_vI (pc' := 76) tb_X3_list r_X3_list_73 tb_X8_sortAt mo_X8_sortAt (by decide) rfl rfl ov29 (fun r hr => snd_X8_sortAt _ hr) (by decide) rfl rfl rfl ?_
      obtain ⟨M30, dM30, cM30, h⟩ := sK_in h
      refine b_is (pc' := 77) tb_X3_list r_X3_list_76 tA_20 dM30 cM30 rfl ?_
      refine b_inc (pc' := 80) (v := x5) (n := 1) [(3, .inl (oAdd x5 1)), (4, .inl v26), (0, .inr (.inr (.inl 19))), (1, .inl a1)] tb_X3_list r_X3_list_77 rfl rfl rfl rfl rfl ?_
      obtain ⟨v31, ev31, h⟩ := fK_v h
      rw [ev31]
      refine b_goto (pc' := 31) tb_X3_list r_X3_list_80 rfl ?_
      refine b_sub9 [(0, .inr (.inr (.inl 19))), (1, .inl a1), (3, .inl v31)] ⟨rfl, rfl, rfl, trivial⟩ ?_
      exact hj31 _ _ h
  refine b_sub9 [(0, .inr (.inr (.inl 19))), (1, .inl a1), (3, .inl 0)] ⟨rfl, rfl, rfl, trivial⟩ ?_
  exact hj31 _ _ h
