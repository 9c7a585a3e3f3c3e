/-! more of them -/
noncomputable def m_X4_rankAll (M0 : Nat) : RN :=
  pK M0 1350 0 (fun M1 => lp (fun _ _ => none) (fun (j7 : (Nat →  Nat → RN)) => fun (x2 : Nat) (M3 : Nat) => rK M3 1349 (fun v4 => bK (nGe x2 v4) (rK M3 276 (fun v5 => pK M3 1351 v5 (fun M6 => lp (fun _ _ => none) (fun (j223 : (Nat →  Nat → RN)) => fun (x7 : Nat) (M8 : Nat) => rK M8 1350 (fun v9 => jn (fun (M10 : Nat) => some (1, M10)) (fun (j301 : ( Nat → RN)) => bK (nGe x7 v9) (j301 M8) (rK M8 1351 (fun v11 => bK (nGe (oAdd v11 x7) 27460) (j301 M8) (lK M8 1550 18 x7 (fun v12 => sK M8 1568 32 v12 x7 (fun M13 => rK M13 1351 (fun v14 => lK M13 1550 18 x7 (fun v15 => lK M13 1352 33 v15 (fun v16 => fK (oAdd v14 x7) (fun v17 => sK2 M13 281 780 7500 7656 v17 v16 (fun M18 => rK M18 1351 (fun v19 => pK M18 276 (oAdd (oAdd v19 x7) 1) (fun M20 => fK (oAdd x7 1) (fun v21 => j223 v21 M20)))))))))))))))) (fun (j223 : (Nat →  Nat → RN)) => j223 0 M6)))) (rK M3 1350 (fun v22 => lp (fun _ _ _ => none) (fun (j22 : (Nat → Nat →  Nat → RN)) => fun (x23 : Nat) (x24 : Nat) (M25 : Nat) => bK (nGe x23 x24) (rK M25 1350 (fun v26 => jn (fun (s27 : Nat) (M28 : Nat) => jn (fun (s29 : Nat) (s30 : Nat) (M31 : Nat) => sK M31 1517 33 s30 s29 (fun M32 => jn (fun (M33 : Nat) => fK (oAdd x2 1) (fun v34 => j7 v34 M33)) (fun (j204 : ( Nat → RN)) => bK (zEq s27) (j204 M32) (rK M32 1350 (fun v35 => fK (oSub v35 x23) (fun v36 => fK (oAdd x23 1) (fun v37 => cpK M32 1550 18 256 256 x23 v37 v36 (fun M38 => sK M38 1550 18 x23 x2 (fun M39 => rK M39 1350 (fun v40 => pK M39 1350 (oAdd v40 1) (fun M41 => j204 M41))))))))))) (fun (j160 : (Nat → Nat →  Nat → RN)) => bK (zEq s27) (lK M28 1550 18 x23 (fun v42 => j160 v42 x2 M28)) (j160 x2 x2 M28))) (fun (j138 : (Nat →  Nat → RN)) => jn (fun (M43 : Nat) => j138 1 M43) (fun (j133 : ( Nat → RN)) => bK (nEq x23 v26) (j133 M25) (lK M25 1352 33 x2 (fun v44 => lK M25 1550 18 x23 (fun v45 => lK M25 1352 33 v45 (fun v46 => cI (m_X8_order v44 v46 M25) (fun v48 M47 => bK (zEq v48) (j138 0 M47) (j133 M47)))))))))) (fK (oAdd x23 x24) (fun v49 => dvK Nat.div v49 2 (fun v50 => lK M25 1352 33 x2 (fun v51 => lK M25 1550 18 v50 (fun v52 => lK M25 1352 33 v52 (fun v53 => cI (m_X8_order v51 v53 M25) (fun v55 M54 => jn (fun (s56 : Nat) (M57 : Nat) => jn (fun (s58 : Nat) (M59 : Nat) => jn (fun (s60 : Nat) (M61 : Nat) => j22 s58 s60 M61) (fun (j94 : (Nat →  Nat → RN)) => bK (zEq s56) (j94 v50 M59) (j94 x24 M59))) (fun (j82 : (Nat →  Nat → RN)) => bK (zEq s56) (j82 x23 M57) (fK (oAdd v50 1) (fun v62 => j82 v62 M57)))) (fun (j67 : (Nat →  Nat → RN)) => bK (zLe v55) (j67 0 M54) (j67 1 M54)))))))))) (fun (j22 : (Nat → Nat →  Nat → RN)) => j22 0 v22 M3))))) (fun (j7 : (Nat →  Nat → RN)) => j7 0 M1))
set_option maxRecDepth 100000 in
theorem snd_X4_rankAll {l : Launch} {g : GV} {D : va_G} {sl q : Nat} {M0 : Nat} {r : Nat × Nat} (h : m_X4_rankAll M0 = some r) : SN l g D sl 2 0 q q 60 0 [(0, .inr (.inr (.inl 28)))] [] M0 (PR r) := by
  unfold m_X4_rankAll at h
  refine b_aln (pc' := 1) (a := .inr (.inr (.inl 28))) tb_X4_rankAll r_X4_rankAll_0 rfl rfl rfl ?_
  refine b_ic (pc' := 2) (0) tb_X4_rankAll r_X4_rankAll_1 rfl rfl ?_
  obtain ⟨M1, cM1, h⟩ := pK_in h
  refine b_pi (pc' := 5) tb_X4_rankAll r_X4_rankAll_2 rfl tF_28_4_9 cM1 rfl ?_
  refine b_ic (pc' := 6) (0) tb_X4_rankAll r_X4_rankAll_5 rfl rfl ?_
  refine b_stn (pc' := 7) [(1, .inl 0), (0, .inr (.inr (.inl 28)))] tb_X4_rankAll r_X4_rankAll_6 rfl rfl rfl rfl ?_
  refine lp_in (R := fun (j7 : (Nat → Nat → RN)) => ∀ (x2 M3 : Nat), j7 x2 M3 = some r → SN l g D sl 2 0 q q 60 7 [(0, .inr (.inr (.inl 28))), (1, .inl x2)] [] M3 (PR r)) h (fun _ _ h => by cases h) (fun j7 hj7 => ?_) (fun j7 hj7 h => ?_)
  · intro x2 M3 h
    refine b_iln (pc' := 8) (a := .inl x2) tb_X4_rankAll r_X4_rankAll_7 rfl rfl rfl ?_
    refine b_aln (pc' := 9) (a := .inr (.inr (.inl 28))) tb_X4_rankAll r_X4_rankAll_8 rfl rfl rfl ?_
    obtain ⟨v4, cv4, h⟩ := rK_in h
    refine b_gi (pc' := 12) tb_X4_rankAll r_X4_rankAll_9 tF_28_4_2 cv4 rfl ?_
    rcases bK_in h with ⟨c1, h⟩ | ⟨c1, h⟩
    · refine b_icT (t := 210) tb_X4_rankAll r_X4_rankAll_12 rfl ((nGe_c _ _).symm.trans c1) ?_
      refine b_aln (pc' := 211) (a := .inr (.inr (.inl 28))) tb_X4_rankAll r_X4_rankAll_210 rfl rfl rfl ?_
      refine b_aln (pc' := 212) (a := .inr (.inr (.inl 28))) tb_X4_rankAll r_X4_rankAll_211 rfl rfl rfl ?_
      refine b_gr (pc' := 215) tb_X4_rankAll r_X4_rankAll_212 tF_28_4_0 rfl ?_
      obtain ⟨v5, cv5, h⟩ := rK_in h
      refine b_gi (pc' := 218) tb_X4_rankAll r_X4_rankAll_215 tF_11_8_2 cv5 rfl ?_
      obtain ⟨M6, cM6, h⟩ := pK_in h
      refine b_pi (pc' := 221) tb_X4_rankAll r_X4_rankAll_218 rfl tF_28_4_15 cM6 rfl ?_
      refine b_ic (pc' := 222) (0) tb_X4_rankAll r_X4_rankAll_221 rfl rfl ?_
      refine b_stn (pc' := 223) [(1, .inl 0), (0, .inr (.inr (.inl 28)))] tb_X4_rankAll r_X4_rankAll_222 rfl rfl rfl rfl ?_
      refine lp_in (R := fun (j223 : (Nat → Nat → RN)) => ∀ (x7 M8 : Nat), j223 x7 M8 = some r → SN l g D sl 2 0 q q 60 223 [(0, .inr (.inr (.inl 28))), (1, .inl x7)] [] M8 (PR r)) h (fun _ _ h => by cases h) (fun j223 hj223 => ?_) (fun j223 hj223 h => ?_)
      · intro x7 M8 h
        refine b_iln (pc' := 224) (a := .inl x7) tb_X4_rankAll r_X4_rankAll_223 rfl rfl rfl ?_
        refine b_aln (pc' := 225) (a := .inr (.inr (.inl 28))) tb_X4_rankAll r_X4_rankAll_224 rfl rfl rfl ?_
        obtain ⟨v9, cv9, h⟩ := rK_in h
        refine b_gi (pc' := 228) tb_X4_rankAll r_X4_rankAll_225 tF_28_4_9 cv9 rfl ?_
        refine jn_in (R := fun (j301 : ( Nat → RN)) => ∀ (M10 : Nat), j301 M10 = some r → SN l g D sl 2 0 q q 60 301 [] [] M10 (PR r)) h (fun M10 h => ?_) (fun j301 hj301 h => ?_)
        · skip
          exact b_vo tb_X4_rankAll r_X4_rankAll_301 (sj h).symm
        rcases bK_in h with ⟨c1, h⟩ | ⟨c1, h⟩
        · refine b_icT (t := 301) tb_X4_rankAll r_X4_rankAll_228 rfl ((nGe_c _ _).symm.trans c1) ?_
          refine b_sub9 [] trivial ?_
          exact hj301 _ h
        · refine b_icF (t := 301) (pc' := 231) tb_X4_rankAll r_X4_rankAll_228 rfl ((nGe_c _ _).symm.trans c1) rfl ?_
          refine b_aln (pc' := 232) (a := .inr (.inr (.inl 28))) tb_X4_rankAll r_X4_rankAll_231 rfl rfl rfl ?_
          obtain ⟨v11, cv11, h⟩ := rK_in h
          refine b_gi (pc' := 235) tb_X4_rankAll r_X4_rankAll_232 tF_28_4_15 cv11 rfl ?_
          refine b_iln (pc' := 236) (a := .inl x7) tb_X4_rankAll r_X4_rankAll_235 rfl rfl rfl ?_
          refine b_add (pc' := 237) tb_X4_rankAll r_X4_rankAll_236 rfl ?_
          refine b_si (pc' := 240) (27460) tb_X4_rankAll r_X4_rankAll_237 rfl rfl rfl ?_
          rcases bK_in h with ⟨c1, h⟩ | ⟨c1, h⟩
          · refine b_icT (t := 301) tb_X4_rankAll r_X4_rankAll_240 rfl ((nGe_c _ _).symm.trans c1) ?_
            refine b_sub9 [] trivial ?_
            exact hj301 _ h
          · refine b_icF (t := 301) (pc' := 243) tb_X4_rankAll r_X4_rankAll_240 rfl ((nGe_c _ _).symm.trans c1) rfl ?_
            refine b_aln (pc' := 244) (a := .inr (.inr (.inl 28))) tb_X4_rankAll r_X4_rankAll_243 rfl rfl rfl ?_
            refine b_gr (pc' := 247) tb_X4_rankAll r_X4_rankAll_244 tF_28_4_11 rfl ?_
            refine b_aln (pc' := 248) (a := .inr (.inr (.inl 28))) tb_X4_rankAll r_X4_rankAll_247 rfl rfl rfl ?_
            refine b_gr (pc' := 251) tb_X4_rankAll r_X4_rankAll_248 tF_28_4_10 rfl ?_
            refine b_iln (pc' := 252) (a := .inl x7) tb_X4_rankAll r_X4_rankAll_251 rfl rfl rfl ?_
            obtain ⟨v12, dv12, cv12, h⟩ := lK_in h
            refine b_ia (pc' := 253) tb_X4_rankAll r_X4_rankAll_252 tA_35 dv12 cv12 rfl ?_
            refine b_iln (pc' := 254) (a := .inl x7) tb_X4_rankAll r_X4_rankAll_253 rfl rfl rfl ?_
            obtain ⟨M13, dM13, cM13, h⟩ := sK_in h
            refine b_is (pc' := 255) tb_X4_rankAll r_X4_rankAll_254 tA_36 dM13 cM13 rfl ?_
            refine b_aln (pc' := 256) (a := .inr (.inr (.inl 28))) tb_X4_rankAll r_X4_rankAll_255 rfl rfl rfl ?_
            refine b_gr (pc' := 259) tb_X4_rankAll r_X4_rankAll_256 tF_28_4_0 rfl ?_
            refine b_gr (pc' := 262) tb_X4_rankAll r_X4_rankAll_259 tF_11_8_1 rfl ?_
            refine b_aln (pc' := 263) (a := .inr (.inr (.inl 28))) tb_X4_rankAll r_X4_rankAll_262 rfl rfl rfl ?_
            obtain ⟨v14, cv14, h⟩ := rK_in h
            refine b_gi (pc' := 266) tb_X4_rankAll r_X4_rankAll_263 tF_28_4_15 cv14 rfl ?_
            refine b_iln (pc' := 267) (a := .inl x7) tb_X4_rankAll r_X4_rankAll_266 rfl rfl rfl ?_
            refine b_add (pc' := 268) tb_X4_rankAll r_X4_rankAll_267 rfl ?_
            refine b_aln (pc' := 269) (a := .inr (.inr (.inl 28))) tb_X4_rankAll r_X4_rankAll_268 rfl rfl rfl ?_
            refine b_gr (pc' := 272) tb_X4_rankAll r_X4_rankAll_269 tF_28_4_3 rfl ?_
            refine b_aln (pc' := 273) (a := .inr (.inr (.inl 28))) tb_X4_rankAll r_X4_rankAll_272 rfl rfl rfl ?_
            refine b_gr (pc' := 276) tb_X4_rankAll r_X4_rankAll_273 tF_28_4_10 rfl ?_
            refine b_iln (pc' := 277) (a := .inl x7) tb_X4_rankAll r_X4_rankAll_276 rfl rfl rfl ?_
            obtain ⟨v15, dv15, cv15, h⟩ := lK_in h
            refine b_ia (pc' := 278) tb_X4_rankAll r_X4_rankAll_277 tA_35 dv15 cv15 rfl ?_
            obtain ⟨v16, dv16, cv16, h⟩ := lK_in h
            refine b_ia (pc' := 279) tb_X4_rankAll r_X4_rankAll_278 tA_29 dv16 cv16 rfl ?_
            obtain ⟨v17, ev17, h⟩ := fK_v h
            rw [ev17]
            obtain ⟨M18, _, dM18, cM18, h⟩ := sK2_in h
            refine b_is2 (pc' := 280) tb_X4_rankAll r_X4_rankAll_279 tA_12 dM18 cM18 rfl ?_
            refine b_aln (pc' := 281) (a := .inr (.inr (.inl 28))) tb_X4_rankAll r_X4_rankAll_280 rfl rfl rfl ?_
            refine b_gr (pc' := 284) tb_X4_rankAll r_X4_rankAll_281 tF_28_4_0 rfl ?_
            refine b_aln (pc' := 285) (a := .inr (.inr (.inl 28))) tb_X4_rankAll r_X4_rankAll_284 rfl rfl rfl ?_
            obtain ⟨v19, cv19, h⟩ := rK_in h
            refine b_gi (pc' := 288) tb_X4_rankAll r_X4_rankAll_285 tF_28_4_15 cv19 rfl ?_
            refine b_iln (pc' := 289) (a := .inl x7) tb_X4_rankAll r_X4_rankAll_288 rfl rfl rfl ?_
            refine b_add (pc' := 290) tb_X4_rankAll r_X4_rankAll_289 rfl ?_
            refine b_ic (pc' := 291) (1) tb_X4_rankAll r_X4_rankAll_290 rfl rfl ?_
            refine b_add (pc' := 292) tb_X4_rankAll r_X4_rankAll_291 rfl ?_
            obtain ⟨M20, cM20, h⟩ := pK_in h
            refine b_pi (pc' := 295) tb_X4_rankAll r_X4_rankAll_292 rfl tF_11_8_2 cM20 rfl ?_
            refine b_inc (pc' := 298) (v := x7) (n := 1) [(1, .inl (oAdd x7 1)), (0, .inr (.inr (.inl 28)))] tb_X4_rankAll r_X4_rankAll_295 rfl rfl rfl rfl rfl ?_
            obtain ⟨v21, ev21, h⟩ := fK_v h
            rw [ev21]
            refine b_goto (pc' := 223) tb_X4_rankAll r_X4_rankAll_298 rfl ?_
            refine b_sub9 [(0, .inr (.inr (.inl 28))), (1, .inl v21)] ⟨rfl, rfl, trivial⟩ ?_
            exact hj223 _ _ h
      refine b_sub9 [(0, .inr (.inr (.inl 28))), (1, .inl 0)] ⟨rfl, rfl, trivial⟩ ?_
      exact hj223 _ _ h
    · refine b_icF (t := 210) (pc' := 15) tb_X4_rankAll r_X4_rankAll_12 rfl ((nGe_c _ _).symm.trans c1) rfl ?_
      refine b_ic (pc' := 16) (0) tb_X4_rankAll r_X4_rankAll_15 rfl rfl ?_
      refine b_stn (pc' := 17) [(2, .inl 0), (0, .inr (.inr (.inl 28))), (1, .inl x2)] tb_X4_rankAll r_X4_rankAll_16 rfl rfl rfl rfl ?_
      refine b_aln (pc' := 18) (a := .inr (.inr (.inl 28))) tb_X4_rankAll r_X4_rankAll_17 rfl rfl rfl ?_
      obtain ⟨v22, cv22, h⟩ := rK_in h
      refine b_gi (pc' := 21) tb_X4_rankAll r_X4_rankAll_18 tF_28_4_9 cv22 rfl ?_
      refine b_stn (pc' := 22) [(3, .inl v22), (2, .inl 0), (0, .inr (.inr (.inl 28))), (1, .inl x2)] tb_X4_rankAll r_X4_rankAll_21 rfl rfl rfl rfl ?_
      refine lp_in (R := fun (j22 : (Nat → Nat → Nat → RN)) => ∀ (x23 x24 M25 : Nat), j22 x23 x24 M25 = some r → SN l g D sl 2 0 q q 60 22 [(0, .inr (.inr (.inl 28))), (1, .inl x2), (2, .inl x23), (3, .inl x24)] [] M25 (PR r)) h (fun _ _ _ h => by cases h) (fun j22 hj22 => ?_) (fun j22 hj22 h => ?_)
      · intro x23 x24 M25 h
        refine b_iln (pc' := 23) (a := .inl x23) tb_X4_rankAll r_X4_rankAll_22 rfl rfl rfl ?_
        refine b_iln (pc' := 24) (a := .inl x24) tb_X4_rankAll r_X4_rankAll_23 rfl rfl rfl ?_
        rcases bK_in h with ⟨c1, h⟩ | ⟨c1, h⟩
        · refine b_icT (t := 98) tb_X4_rankAll r_X4_rankAll_24 rfl ((nGe_c _ _).symm.trans c1) ?_
          refine b_iln (pc' := 99) (a := .inl x23) tb_X4_rankAll r_X4_rankAll_98 rfl rfl rfl ?_
          refine b_aln (pc' := 100) (a := .inr (.inr (.inl 28))) tb_X4_rankAll r_X4_rankAll_99 rfl rfl rfl ?_
          obtain ⟨v26, cv26, h⟩ := rK_in h
          refine b_gi (pc' := 103) tb_X4_rankAll r_X4_rankAll_100 tF_28_4_9 cv26 rfl ?_
          refine jn_in (R := fun (j138 : (Nat → Nat → RN)) => ∀ (s27 M28 : Nat), j138 s27 M28 = some r → SN l g D sl 2 0 q q 60 138 [(0, .inr (.inr (.inl 28))), (1, .inl x2), (2, .inl x23)] [.inl s27] M28 (PR r)) h (fun s27 M28 h => ?_) (fun j138 hj138 h => ?_)
          · skip
            refine b_st (pc' := 140) [(4, .inl s27), (0, .inr (.inr (.inl 28))), (1, .inl x2), (2, .inl x23)] tb_X4_rankAll r_X4_rankAll_138 rfl rfl rfl rfl ?_
            refine b_aln (pc' := 141) (a := .inr (.inr (.inl 28))) tb_X4_rankAll r_X4_rankAll_140 rfl rfl rfl ?_
            refine b_gr (pc' := 144) tb_X4_rankAll r_X4_rankAll_141 tF_28_4_8 rfl ?_
            refine b_iln (pc' := 145) (a := .inl x2) tb_X4_rankAll r_X4_rankAll_144 rfl rfl rfl ?_
            refine b_il (pc' := 147) (a := .inl s27) tb_X4_rankAll r_X4_rankAll_145 rfl rfl rfl ?_
            refine jn_in (R := fun (j160 : (Nat → Nat → Nat → RN)) => ∀ (s29 s30 M31 : Nat), j160 s29 s30 M31 = some r → SN l g D sl 2 0 q q 60 160 [(0, .inr (.inr (.inl 28))), (1, .inl x2), (2, .inl x23), (4, .inl s27)] [.inl s29, .inl s30, .inr (.inr (.inl 34))] M31 (PR r)) h (fun s29 s30 M31 h => ?_) (fun j160 hj160 h => ?_)
            · skip
              obtain ⟨M32, dM32, cM32, h⟩ := sK_in h
              refine b_is (pc' := 161) tb_X4_rankAll r_X4_rankAll_160 tA_34 dM32 cM32 rfl ?_
              refine b_il (pc' := 163) (a := .inl s27) tb_X4_rankAll r_X4_rankAll_161 rfl rfl rfl ?_
              refine jn_in (R := fun (j204 : ( Nat → RN)) => ∀ (M33 : Nat), j204 M33 = some r → SN l g D sl 2 0 q q 60 204 [(0, .inr (.inr (.inl 28))), (1, .inl x2)] [] M33 (PR r)) h (fun M33 h => ?_) (fun j204 hj204 h => ?_)
              · skip
                refine b_inc (pc' := 207) (v := x2) (n := 1) [(1, .inl (oAdd x2 1)), (0, .inr (.inr (.inl 28)))] tb_X4_rankAll r_X4_rankAll_204 rfl rfl rfl rfl rfl ?_
                obtain ⟨v34, ev34, h⟩ := fK_v h
                rw [ev34]
                refine b_goto (pc' := 7) tb_X4_rankAll r_X4_rankAll_207 rfl ?_
                refine b_sub9 [(0, .inr (.inr (.inl 28))), (1, .inl v34)] ⟨rfl, rfl, trivial⟩ ?_
                exact hj7 _ _ h
              rcases bK_in h with ⟨c1, h⟩ | ⟨c1, h⟩
              · refine b_ifT (t := 204) tb_X4_rankAll r_X4_rankAll_163 rfl ((zEq_c _).symm.trans c1) ?_
                refine b_sub9 [(0, .inr (.inr (.inl 28))), (1, .inl x2)] ⟨rfl, rfl, trivial⟩ ?_
                exact hj204 _ h
              · refine b_ifF (t := 204) (pc' := 166) tb_X4_rankAll r_X4_rankAll_163 rfl ((zEq_c _).symm.trans c1) rfl ?_
                refine b_aln (pc' := 167) (a := .inr (.inr (.inl 28))) tb_X4_rankAll r_X4_rankAll_166 rfl rfl rfl ?_
                refine b_gr (pc' := 170) tb_X4_rankAll r_X4_rankAll_167 tF_28_4_10 rfl ?_
                refine b_iln (pc' := 171) (a := .inl x23) tb_X4_rankAll r_X4_rankAll_170 rfl rfl rfl ?_
                refine b_aln (pc' := 172) (a := .inr (.inr (.inl 28))) tb_X4_rankAll r_X4_rankAll_171 rfl rfl rfl ?_
                refine b_gr (pc' := 175) tb_X4_rankAll r_X4_rankAll_172 tF_28_4_10 rfl ?_
                refine b_iln (pc' := 176) (a := .inl x23) tb_X4_rankAll r_X4_rankAll_175 rfl rfl rfl ?_
                refine b_ic (pc' := 177) (1) tb_X4_rankAll r_X4_rankAll_176 rfl rfl ?_
                refine b_add (pc' := 178) tb_X4_rankAll r_X4_rankAll_177 rfl ?_
                refine b_aln (pc' := 179) (a := .inr (.inr (.inl 28))) tb_X4_rankAll r_X4_rankAll_178 rfl rfl rfl ?_
                obtain ⟨v35, cv35, h⟩ := rK_in h
                refine b_gi (pc' := 182) tb_X4_rankAll r_X4_rankAll_179 tF_28_4_9 cv35 rfl ?_
                refine b_iln (pc' := 183) (a := .inl x23) tb_X4_rankAll r_X4_rankAll_182 rfl rfl rfl ?_
                refine b_sub (pc' := 184) tb_X4_rankAll r_X4_rankAll_183 rfl ?_
                obtain ⟨v36, ev36, h⟩ := fK_v h
                rw [ev36]
                obtain ⟨v37, ev37, h⟩ := fK_v h
                rw [ev37]
                obtain ⟨M38, _, _, dM38, fM38, cM38, h⟩ := cpK_in h
                refine b_cp (pc' := 187) tb_X4_rankAll r_X4_rankAll_184 tA_35 rfl dM38 fM38 cM38 rfl ?_
                refine b_aln (pc' := 188) (a := .inr (.inr (.inl 28))) tb_X4_rankAll r_X4_rankAll_187 rfl rfl rfl ?_
                refine b_gr (pc' := 191) tb_X4_rankAll r_X4_rankAll_188 tF_28_4_10 rfl ?_
                refine b_iln (pc' := 192) (a := .inl x23) tb_X4_rankAll r_X4_rankAll_191 rfl rfl rfl ?_
                refine b_iln (pc' := 193) (a := .inl x2) tb_X4_rankAll r_X4_rankAll_192 rfl rfl rfl ?_
                obtain ⟨M39, dM39, cM39, h⟩ := sK_in h
                refine b_is (pc' := 194) tb_X4_rankAll r_X4_rankAll_193 tA_35 dM39 cM39 rfl ?_
                refine b_aln (pc' := 195) (a := .inr (.inr (.inl 28))) tb_X4_rankAll r_X4_rankAll_194 rfl rfl rfl ?_
                refine b_dup (pc' := 196) tb_X4_rankAll r_X4_rankAll_195 rfl rfl ?_
                obtain ⟨v40, cv40, h⟩ := rK_in h
                refine b_gi (pc' := 199) tb_X4_rankAll r_X4_rankAll_196 tF_28_4_9 cv40 rfl ?_
                refine b_ic (pc' := 200) (1) tb_X4_rankAll r_X4_rankAll_199 rfl rfl ?_
                refine b_add (pc' := 201) tb_X4_rankAll r_X4_rankAll_200 rfl ?_
                obtain ⟨M41, cM41, h⟩ := pK_in h
                refine b_pi (pc' := 204) tb_X4_rankAll r_X4_rankAll_201 rfl tF_28_4_9 cM41 rfl ?_
                refine b_sub9 [(0, .inr (.inr (.inl 28))), (1, .inl x2)] ⟨rfl, rfl, trivial⟩ ?_
                exact hj204 _ h
            rcases bK_in h with ⟨c1, h⟩ | ⟨c1, h⟩
            · refine b_ifT (t := 154) tb_X4_rankAll r_X4_rankAll_147 rfl ((zEq_c _).symm.trans c1) ?_
              refine b_aln (pc' := 155) (a := .inr (.inr (.inl 28))) tb_X4_rankAll r_X4_rankAll_154 rfl rfl rfl ?_
              refine b_gr (pc' := 158) tb_X4_rankAll r_X4_rankAll_155 tF_28_4_10 rfl ?_
              refine b_iln (pc' := 159) (a := .inl x23) tb_X4_rankAll r_X4_rankAll_158 rfl rfl rfl ?_
              obtain ⟨v42, dv42, cv42, h⟩ := lK_in h
              refine b_ia (pc' := 160) tb_X4_rankAll r_X4_rankAll_159 tA_35 dv42 cv42 rfl ?_
              refine b_sub9 [(0, .inr (.inr (.inl 28))), (1, .inl x2), (2, .inl x23), (4, .inl s27)] ⟨rfl, rfl, rfl, rfl, trivial⟩ ?_
              exact hj160 _ _ _ h
            · refine b_ifF (t := 154) (pc' := 150) tb_X4_rankAll r_X4_rankAll_147 rfl ((zEq_c _).symm.trans c1) rfl ?_
              refine b_iln (pc' := 151) (a := .inl x2) tb_X4_rankAll r_X4_rankAll_150 rfl rfl rfl ?_
              refine b_goto (pc' := 160) tb_X4_rankAll r_X4_rankAll_151 rfl ?_
              refine b_sub9 [(0, .inr (.inr (.inl 28))), (1, .inl x2), (2, .inl x23), (4, .inl s27)] ⟨rfl, rfl, rfl, rfl, trivial⟩ ?_
              exact hj160 _ _ _ h
          refine jn_in (R := fun (j133 : ( Nat → RN)) => ∀ (M43 : Nat), j133 M43 = some r → SN l g D sl 2 0 q q 60 133 [(0, .inr (.inr (.inl 28))), (1, .inl x2), (2, .inl x23)] [] M43 (PR r)) h (fun M43 h => ?_) (fun j133 hj133 h => ?_)
          · skip
            refine b_ic (pc' := 134) (1) tb_X4_rankAll r_X4_rankAll_133 rfl rfl ?_
            refine b_goto (pc' := 138) tb_X4_rankAll r_X4_rankAll_134 rfl ?_
            exact hj138 _ _ h
          rcases bK_in h with ⟨c1, h⟩ | ⟨c1, h⟩
          · refine b_icT (t := 133) tb_X4_rankAll r_X4_rankAll_103 rfl ((nEq_c _ _).symm.trans c1) ?_
            refine b_sub9 [(0, .inr (.inr (.inl 28))), (1, .inl x2), (2, .inl x23)] ⟨rfl, rfl, rfl, trivial⟩ ?_
            exact hj133 _ h
          · refine b_icF (t := 133) (pc' := 106) tb_X4_rankAll r_X4_rankAll_103 rfl ((nEq_c _ _).symm.trans c1) rfl ?_
            refine b_aln (pc' := 107) (a := .inr (.inr (.inl 28))) tb_X4_rankAll r_X4_rankAll_106 rfl rfl rfl ?_
            refine b_gr (pc' := 110) tb_X4_rankAll r_X4_rankAll_107 tF_28_4_0 rfl ?_
            refine b_aln (pc' := 111) (a := .inr (.inr (.inl 28))) tb_X4_rankAll r_X4_rankAll_110 rfl rfl rfl ?_
            refine b_gr (pc' := 114) tb_X4_rankAll r_X4_rankAll_111 tF_28_4_3 rfl ?_
            refine b_iln (pc' := 115) (a := .inl x2) tb_X4_rankAll r_X4_rankAll_114 rfl rfl rfl ?_
            obtain ⟨v44, dv44, cv44, h⟩ := lK_in h
            refine b_ia (pc' := 116) tb_X4_rankAll r_X4_rankAll_115 tA_29 dv44 cv44 rfl ?_
            refine b_aln (pc' := 117) (a := .inr (.inr (.inl 28))) tb_X4_rankAll r_X4_rankAll_116 rfl rfl rfl ?_
            refine b_gr (pc' := 120) tb_X4_rankAll r_X4_rankAll_117 tF_28_4_3 rfl ?_
            refine b_aln (pc' := 121) (a := .inr (.inr (.inl 28))) tb_X4_rankAll r_X4_rankAll_120 rfl rfl rfl ?_
            refine b_gr (pc' := 124) tb_X4_rankAll r_X4_rankAll_121 tF_28_4_10 rfl ?_
            refine b_iln (pc' := 125) (a := .inl x23) tb_X4_rankAll r_X4_rankAll_124 rfl rfl rfl ?_
            obtain ⟨v45, dv45, cv45, h⟩ := lK_in h
            refine b_ia (pc' := 126) tb_X4_rankAll r_X4_rankAll_125 tA_35 dv45 cv45 rfl ?_
            obtain ⟨v46, dv46, cv46, h⟩ := lK_in h
            refine b_ia (pc' := 127) tb_X4_rankAll r_X4_rankAll_126 tA_29 dv46 cv46 rfl ?_
            obtain ⟨v48, M47, ov48, h⟩ := cI_in h
            refine b_vI (pc' := 130) tb_X4_rankAll r_X4_rankAll_127 tb_X8_order mo_X8_order (by decide) rfl rfl ov48 (fun r hr => snd_X8_order hr) (by decide) rfl rfl rfl ?_
            rcases bK_in h with ⟨c1, h⟩ | ⟨c1, h⟩
            · refine b_ifT (t := 137) tb_X4_rankAll r_X4_rankAll_130 rfl ((zEq_c _).symm.trans c1) ?_
              refine b_ic (pc' := 138) (0) tb_X4_rankAll r_X4_rankAll_137 rfl rfl ?_
              refine b_sub9 [(0, .inr (.inr (.inl 28))), (1, .inl x2), (2, .inl x23)] ⟨rfl, rfl, rfl, trivial⟩ ?_
              exact hj138 _ _ h
            · refine b_ifF (t := 137) (pc' := 133) tb_X4_rankAll r_X4_rankAll_130 rfl ((zEq_c _).symm.trans c1) rfl ?_
              refine b_sub9 [(0, .inr (.inr (.inl 28))), (1, .inl x2), (2, .inl x23)] ⟨rfl, rfl, rfl, trivial⟩ ?_
              exact hj133 _ h
        · refine b_icF (t := 98) (pc' := 27) tb_X4_rankAll r_X4_rankAll_24 rfl ((nGe_c _ _).symm.trans c1) rfl ?_
          refine b_iln (pc' := 28) (a := .inl x23) tb_X4_rankAll r_X4_rankAll_27 rfl rfl rfl ?_
          refine b_iln (pc' := 29) (a := .inl x24) tb_X4_rankAll r_X4_rankAll_28 rfl rfl rfl ?_
          refine b_add (pc' := 30) tb_X4_rankAll r_X4_rankAll_29 rfl ?_
          refine b_ic (pc' := 31) (2) tb_X4_rankAll r_X4_rankAll_30 rfl rfl ?_
          obtain ⟨v49, ev49, h⟩ := fK_v h
          rw [ev49]
          obtain ⟨v50, c1, c2, c3, ev50, h⟩ := dvK_in h
          refine b_div (pc' := 32) tb_X4_rankAll r_X4_rankAll_31 c1 c2 c3 ev50 rfl ?_
          refine b_st (pc' := 34) [(4, .inl v50), (0, .inr (.inr (.inl 28))), (1, .inl x2), (2, .inl x23), (3, .inl x24)] tb_X4_rankAll r_X4_rankAll_32 rfl rfl rfl rfl ?_
          refine b_aln (pc' := 35) (a := .inr (.inr (.inl 28))) tb_X4_rankAll r_X4_rankAll_34 rfl rfl rfl ?_
          refine b_gr (pc' := 38) tb_X4_rankAll r_X4_rankAll_35 tF_28_4_0 rfl ?_
          refine b_aln (pc' := 39) (a := .inr (.inr (.inl 28))) tb_X4_rankAll r_X4_rankAll_38 rfl rfl rfl ?_
          refine b_gr (pc' := 42) tb_X4_rankAll r_X4_rankAll_39 tF_28_4_3 rfl ?_
          refine b_iln (pc' := 43) (a := .inl x2) tb_X4_rankAll r_X4_rankAll_42 rfl rfl rfl ?_
          obtain ⟨v51, dv51, cv51, h⟩ := lK_in h
          refine b_ia (pc' := 44) tb_X4_rankAll r_X4_rankAll_43 tA_29 dv51 cv51 rfl ?_
          refine b_aln (pc' := 45) (a := .inr (.inr (.inl 28))) tb_X4_rankAll r_X4_rankAll_44 rfl rfl rfl ?_
          refine b_gr (pc' := 48) tb_X4_rankAll r_X4_rankAll_45 tF_28_4_3 rfl ?_
          refine b_aln (pc' := 49) (a := .inr (.inr (.inl 28))) tb_X4_rankAll r_X4_rankAll_48 rfl rfl rfl ?_
          refine b_gr (pc' := 52) tb_X4_rankAll r_X4_rankAll_49 tF_28_4_10 rfl ?_
          refine b_il (pc' := 54) (a := .inl v50) tb_X4_rankAll r_X4_rankAll_52 rfl rfl rfl ?_
          obtain ⟨v52, dv52, cv52, h⟩ := lK_in h
          refine b_ia (pc' := 55) tb_X4_rankAll r_X4_rankAll_54 tA_35 dv52 cv52 rfl ?_
          obtain ⟨v53, dv53, cv53, h⟩ := lK_in h
          refine b_ia (pc' := 56) tb_X4_rankAll r_X4_rankAll_55 tA_29 dv53 cv53 rfl ?_
          obtain ⟨v55, M54, ov55, h⟩ := cI_in h
          refine b_vI (pc' := 59) tb_X4_rankAll r_X4_rankAll_56 tb_X8_order mo_X8_order (by decide) rfl rfl ov55 (fun r hr => snd_X8_order hr) (by decide) rfl rfl rfl ?_
          refine jn_in (R := fun (j67 : (Nat → Nat → RN)) => ∀ (s56 M57 : Nat), j67 s56 M57 = some r → SN l g D sl 2 0 q q 60 67 [(0, .inr (.inr (.inl 28))), (1, .inl x2), (2, .inl x23), (3, .inl x24), (4, .inl v50)] [.inl s56] M57 (PR r)) h (fun s56 M57 h => ?_) (fun j67 hj67 h => ?_)
          · skip
            refine b_st (pc' := 69) [(5, .inl s56), (0, .inr (.inr (.inl 28))), (1, .inl x2), (2, .inl x23), (3, .inl x24), (4, .inl v50)] tb_X4_rankAll r_X4_rankAll_67 rfl rfl rfl rfl ?_
            refine b_il (pc' := 71) (a := .inl s56) tb_X4_rankAll r_X4_rankAll_69 rfl rfl rfl ?_
            refine jn_in (R := fun (j82 : (Nat → Nat → RN)) => ∀ (s58 M59 : Nat), j82 s58 M59 = some r → SN l g D sl 2 0 q q 60 82 [(0, .inr (.inr (.inl 28))), (1, .inl x2), (3, .inl x24), (4, .inl v50), (5, .inl s56)] [.inl s58] M59 (PR r)) h (fun s58 M59 h => ?_) (fun j82 hj82 h => ?_)
            · skip
              refine b_stn (pc' := 83) [(2, .inl s58), (0, .inr (.inr (.inl 28))), (1, .inl x2), (3, .inl x24), (4, .inl v50), (5, .inl s56)] tb_X4_rankAll r_X4_rankAll_82 rfl rfl rfl rfl ?_
              refine b_il (pc' := 85) (a := .inl s56) tb_X4_rankAll r_X4_rankAll_83 rfl rfl rfl ?_
              refine jn_in (R := fun (j94 : (Nat → Nat → RN)) => ∀ (s60 M61 : Nat), j94 s60 M61 = some r → SN l g D sl 2 0 q q 60 94 [(0, .inr (.inr (.inl 28))), (1, .inl x2), (2, .inl s58)] [.inl s60] M61 (PR r)) h (fun s60 M61 h => ?_) (fun j94 hj94 h => ?_)
              · skip
                refine b_stn (pc' := 95) [(3, .inl s60), (0, .inr (.inr (.inl 28))), (1, .inl x2), (2, .inl s58)] tb_X4_rankAll r_X4_rankAll_94 rfl rfl rfl rfl ?_
                refine b_goto (pc' := 22) tb_X4_rankAll r_X4_rankAll_95 rfl ?_
                refine b_sub9 [(0, .inr (.inr (.inl 28))), (1, .inl x2), (2, .inl s58), (3, .inl s60)] ⟨rfl, rfl, rfl, rfl, trivial⟩ ?_
                exact hj22 _ _ _ h
              rcases bK_in h with ⟨c1, h⟩ | ⟨c1, h⟩
              · refine b_ifT (t := 92) tb_X4_rankAll r_X4_rankAll_85 rfl ((zEq_c _).symm.trans c1) ?_
                refine b_il (pc' := 94) (a := .inl v50) tb_X4_rankAll r_X4_rankAll_92 rfl rfl rfl ?_
                refine b_sub9 [(0, .inr (.inr (.inl 28))), (1, .inl x2), (2, .inl s58)] ⟨rfl, rfl, rfl, trivial⟩ ?_
                exact hj94 _ _ h
              · refine b_ifF (t := 92) (pc' := 88) tb_X4_rankAll r_X4_rankAll_85 rfl ((zEq_c _).symm.trans c1) rfl ?_
                refine b_iln (pc' := 89) (a := .inl x24) tb_X4_rankAll r_X4_rankAll_88 rfl rfl rfl ?_
                refine b_goto (pc' := 94) tb_X4_rankAll r_X4_rankAll_89 rfl ?_
                refine b_sub9 [(0, .inr (.inr (.inl 28))), (1, .inl x2), (2, .inl s58)] ⟨rfl, rfl, rfl, trivial⟩ ?_
                exact hj94 _ _ h
            rcases bK_in h with ⟨c1, h⟩ | ⟨c1, h⟩
            · refine b_ifT (t := 81) tb_X4_rankAll r_X4_rankAll_71 rfl ((zEq_c _).symm.trans c1) ?_
              refine b_iln (pc' := 82) (a := .inl x23) tb_X4_rankAll r_X4_rankAll_81 rfl rfl rfl ?_
              refine b_sub9 [(0, .inr (.inr (.inl 28))), (1, .inl x2), (3, .inl x24), (4, .inl v50), (5, .inl s56)] ⟨rfl, rfl, rfl, rfl, rfl, trivial⟩ ?_
              exact hj82 _ _ h
            · refine b_ifF (t := 81) (pc' := 74) tb_X4_rankAll r_X4_rankAll_71 rfl ((zEq_c _).symm.trans c1) rfl ?_
              refine b_il (pc' := 76) (a := .inl v50) tb_X4_rankAll r_X4_rankAll_74 rfl rfl rfl ?_
              refine b_ic (pc' := 77) (1) tb_X4_rankAll r_X4_rankAll_76 rfl rfl ?_
              refine b_add (pc' := 78) tb_X4_rankAll r_X4_rankAll_77 rfl ?_
              refine b_goto (pc' := 82) tb_X4_rankAll r_X4_rankAll_78 rfl ?_
              obtain ⟨v62, ev62, h⟩ := fK_v h
              rw [ev62]
              refine b_sub9 [(0, .inr (.inr (.inl 28))), (1, .inl x2), (3, .inl x24), (4, .inl v50), (5, .inl s56)] ⟨rfl, rfl, rfl, rfl, rfl, trivial⟩ ?_
              exact hj82 _ _ h
          rcases bK_in h with ⟨c1, h⟩ | ⟨c1, h⟩
          · refine b_ifT (t := 66) tb_X4_rankAll r_X4_rankAll_59 rfl ((zLe_c _).symm.trans c1) ?_
            refine b_ic (pc' := 67) (0) tb_X4_rankAll r_X4_rankAll_66 rfl rfl ?_
            refine b_sub9 [(0, .inr (.inr (.inl 28))), (1, .inl x2), (2, .inl x23), (3, .inl x24), (4, .inl v50)] ⟨rfl, rfl, rfl, rfl, rfl, trivial⟩ ?_
            exact hj67 _ _ h
          · refine b_ifF (t := 66) (pc' := 62) tb_X4_rankAll r_X4_rankAll_59 rfl ((zLe_c _).symm.trans c1) rfl ?_
            refine b_ic (pc' := 63) (1) tb_X4_rankAll r_X4_rankAll_62 rfl rfl ?_
            refine b_goto (pc' := 67) tb_X4_rankAll r_X4_rankAll_63 rfl ?_
            refine b_sub9 [(0, .inr (.inr (.inl 28))), (1, .inl x2), (2, .inl x23), (3, .inl x24), (4, .inl v50)] ⟨rfl, rfl, rfl, rfl, rfl, trivial⟩ ?_
            exact hj67 _ _ h
      refine b_sub9 [(0, .inr (.inr (.inl 28))), (1, .inl x2), (2, .inl 0), (3, .inl v22)] ⟨rfl, rfl, rfl, rfl, trivial⟩ ?_
      exact hj22 _ _ _ h
  refine b_sub9 [(0, .inr (.inr (.inl 28))), (1, .inl 0)] ⟨rfl, rfl, trivial⟩ ?_
  exact hj7 _ _ h
noncomputable def m_J7_fill_53178_21 (a1 : Nat) (M0 : Nat) : RN :=
  lp (fun _ _ _ => none) (fun (j5 : (Nat → Nat →  Nat → RN)) => fun (x1 : Nat) (x2 : Nat) (M3 : Nat) => bK (nGe x1 x2) (some (1, M3)) (sK M3 1291 20 x1 a1 (fun M4 => fK (oAdd x1 1) (fun v5 => j5 v5 x2 M4)))) (fun (j5 : (Nat → Nat →  Nat → RN)) => j5 0 20 M0)
set_option maxRecDepth 100000 in
theorem snd_J7_fill_53178_21 {l : Launch} {g : GV} {D : va_G} {sl q : Nat} {a1 M0 : Nat} {r : Nat × Nat} (h : m_J7_fill_53178_21 a1 M0 = some r) : SN l g D sl 1 0 q q 1 0 [(0, .inr (.inr (.inl 21))), (1, .inl a1)] [] M0 (PR r) := by
  unfold m_J7_fill_53178_21 at h
  refine b_ic (pc' := 1) (0) tb_J7_fill_53178 r_J7_fill_53178_0 rfl rfl ?_
  refine b_stn (pc' := 2) [(2, .inl 0), (0, .inr (.inr (.inl 21))), (1, .inl a1)] tb_J7_fill_53178 r_J7_fill_53178_1 rfl rfl rfl rfl ?_
  refine b_aln (pc' := 3) (a := .inr (.inr (.inl 21))) tb_J7_fill_53178 r_J7_fill_53178_2 rfl rfl rfl ?_
  refine b_len (pc' := 4) tb_J7_fill_53178 r_J7_fill_53178_3 tA_21 rfl ?_
  refine b_stn (pc' := 5) [(3, .inl 20), (2, .inl 0), (0, .inr (.inr (.inl 21))), (1, .inl a1)] tb_J7_fill_53178 r_J7_fill_53178_4 rfl rfl rfl rfl ?_
  refine lp_in (R := fun (j5 : (Nat → Nat → Nat → RN)) => ∀ (x1 x2 M3 : Nat), j5 x1 x2 M3 = some r → SN l g D sl 1 0 q q 1 5 [(0, .inr (.inr (.inl 21))), (1, .inl a1), (2, .inl x1), (3, .inl x2)] [] M3 (PR r)) h (fun _ _ _ h => by cases h) (fun j5 hj5 => ?_) (fun j5 hj5 h => ?_)
  · intro x1 x2 M3 h
    refine b_iln (pc' := 6) (a := .inl x1) tb_J7_fill_53178 r_J7_fill_53178_5 rfl rfl rfl ?_
    refine b_iln (pc' := 7) (a := .inl x2) tb_J7_fill_53178 r_J7_fill_53178_6 rfl rfl rfl ?_
    rcases bK_in h with ⟨c1, h⟩ | ⟨c1, h⟩
    · refine b_icT (t := 20) tb_J7_fill_53178 r_J7_fill_53178_7 rfl ((nGe_c _ _).symm.trans c1) ?_
      exact b_vo tb_J7_fill_53178 r_J7_fill_53178_20 (sj h).symm
    · refine b_icF (t := 20) (pc' := 10) tb_J7_fill_53178 r_J7_fill_53178_7 rfl ((nGe_c _ _).symm.trans c1) rfl ?_
      refine b_aln (pc' := 11) (a := .inr (.inr (.inl 21))) tb_J7_fill_53178 r_J7_fill_53178_10 rfl rfl rfl ?_
      refine b_iln (pc' := 12) (a := .inl x1) tb_J7_fill_53178 r_J7_fill_53178_11 rfl rfl rfl ?_
      refine b_iln (pc' := 13) (a := .inl a1) tb_J7_fill_53178 r_J7_fill_53178_12 rfl rfl rfl ?_
      obtain ⟨M4, dM4, cM4, h⟩ := sK_in h
      refine b_is (pc' := 14) tb_J7_fill_53178 r_J7_fill_53178_13 tA_21 dM4 cM4 rfl ?_
      refine b_inc (pc' := 17) (v := x1) (n := 1) [(2, .inl (oAdd x1 1)), (0, .inr (.inr (.inl 21))), (1, .inl a1), (3, .inl x2)] tb_J7_fill_53178 r_J7_fill_53178_14 rfl rfl rfl rfl rfl ?_
      obtain ⟨v5, ev5, h⟩ := fK_v h
      rw [ev5]
      refine b_goto (pc' := 5) tb_J7_fill_53178 r_J7_fill_53178_17 rfl ?_
      refine b_sub9 [(0, .inr (.inr (.inl 21))), (1, .inl a1), (2, .inl v5), (3, .inl x2)] ⟨rfl, rfl, rfl, rfl, trivial⟩ ?_
      exact hj5 _ _ _ h
  refine b_sub9 [(0, .inr (.inr (.inl 21))), (1, .inl a1), (2, .inl 0), (3, .inl 20)] ⟨rfl, rfl, rfl, rfl, trivial⟩ ?_
  exact hj5 _ _ _ h
noncomputable def m_X3_addDuty (a1 a2 a3 : Nat) (M0 : Nat) : RN :=
  rK M0 1255 (fun v1 => sK M0 1311 7 v1 a1 (fun M2 => sK M2 1318 7 v1 a2 (fun M3 => sK M3 1330 7 v1 0 (fun M4 => sK M4 1342 7 v1 a3 (fun M5 => rK M5 1255 (fun v6 => pK M5 1255 (oAdd v6 1) (fun M7 => some (Nat.add v1 2, M7))))))))
set_option maxRecDepth 100000 in
theorem snd_X3_addDuty {l : Launch} {g : GV} {D : va_G} {sl q : Nat} {a1 a2 a3 M0 : Nat} {r : Nat × Nat} (h : m_X3_addDuty a1 a2 a3 M0 = some r) : SN l g D sl 1 0 q q 48 0 [(0, .inr (.inr (.inl 19))), (1, .inl a1), (2, .inl a2), (3, .inl a3)] [] M0 (PR r) := by
  unfold m_X3_addDuty at h
  refine b_aln (pc' := 1) (a := .inr (.inr (.inl 19))) tb_X3_addDuty r_X3_addDuty_0 rfl rfl rfl ?_
  obtain ⟨v1, cv1, h⟩ := rK_in h
  refine b_gi (pc' := 4) tb_X3_addDuty r_X3_addDuty_1 tF_19_3_12 cv1 rfl ?_
  refine b_st (pc' := 6) [(4, .inl v1), (0, .inr (.inr (.inl 19))), (1, .inl a1), (2, .inl a2), (3, .inl a3)] tb_X3_addDuty r_X3_addDuty_4 rfl rfl rfl rfl ?_
  refine b_aln (pc' := 7) (a := .inr (.inr (.inl 19))) tb_X3_addDuty r_X3_addDuty_6 rfl rfl rfl ?_
  refine b_gr (pc' := 10) tb_X3_addDuty r_X3_addDuty_7 tF_19_3_6 rfl ?_
  refine b_il (pc' := 12) (a := .inl v1) tb_X3_addDuty r_X3_addDuty_10 rfl rfl rfl ?_
  refine b_iln (pc' := 13) (a := .inl a1) tb_X3_addDuty r_X3_addDuty_12 rfl rfl rfl ?_
  obtain ⟨M2, dM2, cM2, h⟩ := sK_in h
  refine b_is (pc' := 14) tb_X3_addDuty r_X3_addDuty_13 tA_22 dM2 cM2 rfl ?_
  refine b_aln (pc' := 15) (a := .inr (.inr (.inl 19))) tb_X3_addDuty r_X3_addDuty_14 rfl rfl rfl ?_
  refine b_gr (pc' := 18) tb_X3_addDuty r_X3_addDuty_15 tF_19_3_7 rfl ?_
  refine b_il (pc' := 20) (a := .inl v1) tb_X3_addDuty r_X3_addDuty_18 rfl rfl rfl ?_
  refine b_iln (pc' := 21) (a := .inl a2) tb_X3_addDuty r_X3_addDuty_20 rfl rfl rfl ?_
  obtain ⟨M3, dM3, cM3, h⟩ := sK_in h
  refine b_is (pc' := 22) tb_X3_addDuty r_X3_addDuty_21 tA_23 dM3 cM3 rfl ?_
  refine b_aln (pc' := 23) (a := .inr (.inr (.inl 19))) tb_X3_addDuty r_X3_addDuty_22 rfl rfl rfl ?_
  refine b_gr (pc' := 26) tb_X3_addDuty r_X3_addDuty_23 tF_19_3_9 rfl ?_
  refine b_il (pc' := 28) (a := .inl v1) tb_X3_addDuty r_X3_addDuty_26 rfl rfl rfl ?_
  refine b_ic (pc' := 29) (0) tb_X3_addDuty r_X3_addDuty_28 rfl rfl ?_
  obtain ⟨M4, dM4, cM4, h⟩ := sK_in h
  refine b_is (pc' := 30) tb_X3_addDuty r_X3_addDuty_29 tA_25 dM4 cM4 rfl ?_
  refine b_aln (pc' := 31) (a := .inr (.inr (.inl 19))) tb_X3_addDuty r_X3_addDuty_30 rfl rfl rfl ?_
  refine b_gr (pc' := 34) tb_X3_addDuty r_X3_addDuty_31 tF_19_3_11 rfl ?_
  refine b_il (pc' := 36) (a := .inl v1) tb_X3_addDuty r_X3_addDuty_34 rfl rfl rfl ?_
  refine b_iln (pc' := 37) (a := .inl a3) tb_X3_addDuty r_X3_addDuty_36 rfl rfl rfl ?_
  obtain ⟨M5, dM5, cM5, h⟩ := sK_in h
  refine b_is (pc' := 38) tb_X3_addDuty r_X3_addDuty_37 tA_27 dM5 cM5 rfl ?_
  refine b_aln (pc' := 39) (a := .inr (.inr (.inl 19))) tb_X3_addDuty r_X3_addDuty_38 rfl rfl rfl ?_
  refine b_dup (pc' := 40) tb_X3_addDuty r_X3_addDuty_39 rfl rfl ?_
  obtain ⟨v6, cv6, h⟩ := rK_in h
  refine b_gi (pc' := 43) tb_X3_addDuty r_X3_addDuty_40 tF_19_3_12 cv6 rfl ?_
  refine b_ic (pc' := 44) (1) tb_X3_addDuty r_X3_addDuty_43 rfl rfl ?_
  refine b_add (pc' := 45) tb_X3_addDuty r_X3_addDuty_44 rfl ?_
  obtain ⟨M7, cM7, h⟩ := pK_in h
  refine b_pi (pc' := 48) tb_X3_addDuty r_X3_addDuty_45 rfl tF_19_3_12 cM7 rfl ?_
  refine b_il (pc' := 50) (a := .inl v1) tb_X3_addDuty r_X3_addDuty_48 rfl rfl rfl ?_
  exact b_ri tb_X3_addDuty r_X3_addDuty_50 rfl (sj h).symm
noncomputable def m_X4_argument (a1 a2 : Nat) (M0 : Nat) : RN :=
  lK M0 1451 33 a1 (fun v1 => fK (oAdd (oMul v1 5) a2) (fun v2 => lK M0 1600 61 v2 (fun v3 => lK M0 1517 33 v3 (fun v4 => some (Nat.add v4 2, M0)))))
set_option maxRecDepth 100000 in
theorem snd_X4_argument {l : Launch} {g : GV} {D : va_G} {sl q : Nat} {a1 a2 M0 : Nat} {r : Nat × Nat} (h : m_X4_argument a1 a2 M0 = some r) : SN l g D sl 1 0 q q 61 0 [(0, .inr (.inr (.inl 28))), (1, .inl a1), (2, .inl a2)] [] M0 (PR r) := by
  unfold m_X4_argument at h
  refine b_aln (pc' := 1) (a := .inr (.inr (.inl 28))) tb_X4_argument r_X4_argument_0 rfl rfl rfl ?_
  refine b_gr (pc' := 4) tb_X4_argument r_X4_argument_1 tF_28_4_8 rfl ?_
  refine b_aln (pc' := 5) (a := .inr (.inr (.inl 28))) tb_X4_argument r_X4_argument_4 rfl rfl rfl ?_
  refine b_gr (pc' := 8) tb_X4_argument r_X4_argument_5 tF_28_4_12 rfl ?_
  refine b_aln (pc' := 9) (a := .inr (.inr (.inl 28))) tb_X4_argument r_X4_argument_8 rfl rfl rfl ?_
  refine b_gr (pc' := 12) tb_X4_argument r_X4_argument_9 tF_28_4_6 rfl ?_
  refine b_iln (pc' := 13) (a := .inl a1) tb_X4_argument r_X4_argument_12 rfl rfl rfl ?_
  obtain ⟨v1, dv1, cv1, h⟩ := lK_in h
  refine b_ia (pc' := 14) tb_X4_argument r_X4_argument_13 tA_32 dv1 cv1 rfl ?_
  refine b_ic (pc' := 15) (5) tb_X4_argument r_X4_argument_14 rfl rfl ?_
  refine b_mul (pc' := 16) tb_X4_argument r_X4_argument_15 rfl ?_
  refine b_iln (pc' := 17) (a := .inl a2) tb_X4_argument r_X4_argument_16 rfl rfl rfl ?_
  refine b_add (pc' := 18) tb_X4_argument r_X4_argument_17 rfl ?_
  obtain ⟨v2, ev2, h⟩ := fK_v h
  rw [ev2]
  obtain ⟨v3, dv3, cv3, h⟩ := lK_in h
  refine b_ia (pc' := 19) tb_X4_argument r_X4_argument_18 tA_37 dv3 cv3 rfl ?_
  obtain ⟨v4, dv4, cv4, h⟩ := lK_in h
  refine b_ia (pc' := 20) tb_X4_argument r_X4_argument_19 tA_34 dv4 cv4 rfl ?_
  exact b_ri tb_X4_argument r_X4_argument_20 rfl (sj h).symm
noncomputable def m_X3_meetArguments (sv : Nat → Nat → RN) (a1 a2 a3 : Nat) (M0 : Nat) : RN :=
  rK M0 1255 (fun v1 => lK M0 1342 7 a1 (fun v2 => lK M0 1311 7 a1 (fun v3 => fK (oAdd v3 1) (fun v4 => lp (fun _ _ _ _ => none) (fun (j27 : (Nat → Nat → Nat →  Nat → RN)) => fun (x5 : Nat) (x6 : Nat) (x7 : Nat) (M8 : Nat) => bK (nGe x7 a2) (cV (sv x5 M8) (fun M9 => pK M9 1255 v1 (fun M10 => some (1, M10)))) (bK (zEq a3) (lK M8 1318 7 a1 (fun v19 => cI (m_X4_argument v19 x7 M8) (fun v21 M20 => cI (m_X3_addDuty x6 v21 x5 M20) (fun v23 M22 => cI (m_X8_end x6 M22) (fun v25 M24 => fK (oAdd x7 1) (fun v26 => j27 v23 v25 v26 M24)))))) none)) (fun (j27 : (Nat → Nat → Nat →  Nat → RN)) => j27 v2 v4 0 M0)))))
set_option maxRecDepth 100000 in
theorem snd_X3_meetArguments {l : Launch} {g : GV} {D : va_G} {sl q hh : Nat} {sv : Nat → Nat → RN} (hsv : ∀ (a M : Nat) (r : Nat × Nat), sv a M = some r → SN l g D sl hh 0 q q 49 0 [(0, .inr (.inr (.inl 19))), (1, .inl a)] [] M (PR r)) (hb : 1 ≤ hh) {a1 a2 a3 M0 : Nat} {r : Nat × Nat} (h : m_X3_meetArguments sv a1 a2 a3 M0 = some r) : SN l g D sl (hh + 1) 0 q q 52 0 [(0, .inr (.inr (.inl 19))), (1, .inl a1), (2, .inl a2), (3, .inl a3)] [] M0 (PR r) := by
  unfold m_X3_meetArguments at h
  refine b_aln (pc' := 1) (a := .inr (.inr (.inl 19))) tb_X3_meetArguments r_X3_meetArguments_0 rfl rfl rfl ?_
  obtain ⟨v1, cv1, h⟩ := rK_in h
  refine b_gi (pc' := 4) tb_X3_meetArguments r_X3_meetArguments_1 tF_19_3_12 cv1 rfl ?_
  refine b_st (pc' := 6) [(4, .inl v1), (0, .inr (.inr (.inl 19))), (1, .inl a1), (2, .inl a2), (3, .inl a3)] tb_X3_meetArguments r_X3_meetArguments_4 rfl rfl rfl rfl ?_
  refine b_aln (pc' := 7) (a := .inr (.inr (.inl 19))) tb_X3_meetArguments r_X3_meetArguments_6 rfl rfl rfl ?_
  refine b_gr (pc' := 10) tb_X3_meetArguments r_X3_meetArguments_7 tF_19_3_11 rfl ?_
  refine b_iln (pc' := 11) (a := .inl a1) tb_X3_meetArguments r_X3_meetArguments_10 rfl rfl rfl ?_
  obtain ⟨v2, dv2, cv2, h⟩ := lK_in h
  refine b_ia (pc' := 12) tb_X3_meetArguments r_X3_meetArguments_11 tA_27 dv2 cv2 rfl ?_
  refine b_st (pc' := 14) [(5, .inl v2), (4, .inl v1), (0, .inr (.inr (.inl 19))), (1, .inl a1), (2, .inl a2), (3, .inl a3)] tb_X3_meetArguments r_X3_meetArguments_12 rfl rfl rfl rfl ?_
  refine b_aln (pc' := 15) (a := .inr (.inr (.inl 19))) tb_X3_meetArguments r_X3_meetArguments_14 rfl rfl rfl ?_
  refine b_gr (pc' := 18) tb_X3_meetArguments r_X3_meetArguments_15 tF_19_3_6 rfl ?_
  refine b_iln (pc' := 19) (a := .inl a1) tb_X3_meetArguments r_X3_meetArguments_18 rfl rfl rfl ?_
  obtain ⟨v3, dv3, cv3, h⟩ := lK_in h
  refine b_ia (pc' := 20) tb_X3_meetArguments r_X3_meetArguments_19 tA_22 dv3 cv3 rfl ?_
  refine b_ic (pc' := 21) (1) tb_X3_meetArguments r_X3_meetArguments_20 rfl rfl ?_
  refine b_add (pc' := 22) tb_X3_meetArguments r_X3_meetArguments_21 rfl ?_
  obtain ⟨v4, ev4, h⟩ := fK_v h
  rw [ev4]
  refine b_st (pc' := 24) [(6, .inl v4), (5, .inl v2), (4, .inl v1), (0, .inr (.inr (.inl 19))), (1, .inl a1), (2, .inl a2), (3, .inl a3)] tb_X3_meetArguments r_X3_meetArguments_22 rfl rfl rfl rfl ?_
  refine b_ic (pc' := 25) (0) tb_X3_meetArguments r_X3_meetArguments_24 rfl rfl ?_
  refine b_st (pc' := 27) [(7, .inl 0), (6, .inl v4), (5, .inl v2), (4, .inl v1), (0, .inr (.inr (.inl 19))), (1, .inl a1), (2, .inl a2), (3, .inl a3)] tb_X3_meetArguments r_X3_meetArguments_25 rfl rfl rfl rfl ?_
  refine lp_in (R := fun (j27 : (Nat → Nat → Nat → Nat → RN)) => ∀ (x5 x6 x7 M8 : Nat), j27 x5 x6 x7 M8 = some r → SN l g D sl (hh + 1) 0 q q 52 27 [(0, .inr (.inr (.inl 19))), (1, .inl a1), (2, .inl a2), (3, .inl a3), (4, .inl v1), (5, .inl x5), (6, .inl x6), (7, .inl x7)] [] M8 (PR r)) h (fun _ _ _ _ h => by cases h) (fun j27 hj27 => ?_) (fun j27 hj27 h => ?_)
  · intro x5 x6 x7 M8 h
    refine b_il (pc' := 29) (a := .inl x7) tb_X3_meetArguments r_X3_meetArguments_27 rfl rfl rfl ?_
    refine b_iln (pc' := 30) (a := .inl a2) tb_X3_meetArguments r_X3_meetArguments_29 rfl rfl rfl ?_
    rcases bK_in h with ⟨c1, h⟩ | ⟨c1, h⟩
    · refine b_icT (t := 92) tb_X3_meetArguments r_X3_meetArguments_30 rfl ((nGe_c _ _).symm.trans c1) ?_
      refine b_aln (pc' := 93) (a := .inr (.inr (.inl 19))) tb_X3_meetArguments r_X3_meetArguments_92 rfl rfl rfl ?_
      refine b_il (pc' := 95) (a := .inl x5) tb_X3_meetArguments r_X3_meetArguments_93 rfl rfl rfl ?_
      obtain ⟨M9, oM9, h⟩ := cV_in h
      refine b_vV (pc' := 98) tb_X3_meetArguments r_X3_meetArguments_95 tb_X3_solve mo_X3_solve (by decide) rfl rfl oM9 (fun r hr => hsv _ _ _ hr) (by omega) rfl rfl rfl ?_
      refine b_aln (pc' := 99) (a := .inr (.inr (.inl 19))) tb_X3_meetArguments r_X3_meetArguments_98 rfl rfl rfl ?_
      refine b_il (pc' := 101) (a := .inl v1) tb_X3_meetArguments r_X3_meetArguments_99 rfl rfl rfl ?_
      obtain ⟨M10, cM10, h⟩ := pK_in h
      refine b_pi (pc' := 104) tb_X3_meetArguments r_X3_meetArguments_101 rfl tF_19_3_12 cM10 rfl ?_
      exact b_vo tb_X3_meetArguments r_X3_meetArguments_104 (sj h).symm
    · refine b_icF (t := 92) (pc' := 33) tb_X3_meetArguments r_X3_meetArguments_30 rfl ((nGe_c _ _).symm.trans c1) rfl ?_
      refine b_iln (pc' := 34) (a := .inl a3) tb_X3_meetArguments r_X3_meetArguments_33 rfl rfl rfl ?_
      obtain ⟨c1, h⟩ := bK_t h
      refine b_ifT (t := 46) tb_X3_meetArguments r_X3_meetArguments_34 rfl ((zEq_c _).symm.trans c1) ?_
      refine b_il (pc' := 48) (a := .inl x7) tb_X3_meetArguments r_X3_meetArguments_46 rfl rfl rfl ?_
      refine b_st (pc' := 50) [(8, .inl x7), (0, .inr (.inr (.inl 19))), (1, .inl a1), (2, .inl a2), (3, .inl a3), (4, .inl v1), (5, .inl x5), (6, .inl x6), (7, .inl x7)] tb_X3_meetArguments r_X3_meetArguments_48 rfl rfl rfl rfl ?_
      refine b_aln (pc' := 51) (a := .inr (.inr (.inl 19))) tb_X3_meetArguments r_X3_meetArguments_50 rfl rfl rfl ?_
      refine b_il (pc' := 53) (a := .inl x6) tb_X3_meetArguments r_X3_meetArguments_51 rfl rfl rfl ?_
      refine b_aln (pc' := 54) (a := .inr (.inr (.inl 19))) tb_X3_meetArguments r_X3_meetArguments_53 rfl rfl rfl ?_
      refine b_gr (pc' := 57) tb_X3_meetArguments r_X3_meetArguments_54 tF_19_3_2 rfl ?_
      refine b_aln (pc' := 58) (a := .inr (.inr (.inl 19))) tb_X3_meetArguments r_X3_meetArguments_57 rfl rfl rfl ?_
      refine b_gr (pc' := 61) tb_X3_meetArguments r_X3_meetArguments_58 tF_19_3_7 rfl ?_
      refine b_iln (pc' := 62) (a := .inl a1) tb_X3_meetArguments r_X3_meetArguments_61 rfl rfl rfl ?_
      obtain ⟨v19, dv19, cv19, h⟩ := lK_in h
      refine b_ia (pc' := 63) tb_X3_meetArguments r_X3_meetArguments_62 tA_23 dv19 cv19 rfl ?_
      refine b_il (pc' := 65) (a := .inl x7) tb_X3_meetArguments r_X3_meetArguments_63 rfl rfl rfl ?_
      obtain ⟨v21, M20, ov21, h⟩ := cI_in h
      refine b_vI (pc' := 68) tb_X3_meetArguments r_X3_meetArguments_65 tb_X4_argument mo_X4_argument (by decide) rfl rfl ov21 (fun r hr => snd_X4_argument hr) (Nat.le_trans (by decide) (Nat.le_trans hb (by omega))) rfl rfl rfl ?_
      refine b_il (pc' := 70) (a := .inl x5) tb_X3_meetArguments r_X3_meetArguments_68 rfl rfl rfl ?_
      obtain ⟨v23, M22, ov23, h⟩ := cI_in h
      refine b_vI (pc' := 73) tb_X3_meetArguments r_X3_meetArguments_70 tb_X3_addDuty mo_X3_addDuty (by decide) rfl rfl ov23 (fun r hr => snd_X3_addDuty hr) (Nat.le_trans (by decide) (Nat.le_trans hb (by omega))) rfl rfl rfl ?_
      refine b_st (pc' := 75) [(5, .inl v23), (8, .inl x7), (0, .inr (.inr (.inl 19))), (1, .inl a1), (2, .inl a2), (3, .inl a3), (4, .inl v1), (6, .inl x6), (7, .inl x7)] tb_X3_meetArguments r_X3_meetArguments_73 rfl rfl rfl rfl ?_
      refine b_aln (pc' := 76) (a := .inr (.inr (.inl 19))) tb_X3_meetArguments r_X3_meetArguments_75 rfl rfl rfl ?_
      refine b_gr (pc' := 79) tb_X3_meetArguments r_X3_meetArguments_76 tF_19_3_0 rfl ?_
      refine b_il (pc' := 81) (a := .inl x6) tb_X3_meetArguments r_X3_meetArguments_79 rfl rfl rfl ?_
      obtain ⟨v25, M24, ov25, h⟩ := cI_in h
      refine b_vI (pc' := 84) tb_X3_meetArguments r_X3_meetArguments_81 tb_X8_end mo_X8_end (by decide) rfl rfl ov25 (fun r hr => snd_X8_end hr) (Nat.le_trans (by decide) (Nat.le_trans hb (by omega))) rfl rfl rfl ?_
      refine b_st (pc' := 86) [(6, .inl v25), (5, .inl v23), (8, .inl x7), (0, .inr (.inr (.inl 19))), (1, .inl a1), (2, .inl a2), (3, .inl a3), (4, .inl v1), (7, .inl x7)] tb_X3_meetArguments r_X3_meetArguments_84 rfl rfl rfl rfl ?_
      refine b_inc (pc' := 89) (v := x7) (n := 1) [(7, .inl (oAdd x7 1)), (6, .inl v25), (5, .inl v23), (8, .inl x7), (0, .inr (.inr (.inl 19))), (1, .inl a1), (2, .inl a2), (3, .inl a3), (4, .inl v1)] tb_X3_meetArguments r_X3_meetArguments_86 rfl rfl rfl rfl rfl ?_
      obtain ⟨v26, ev26, h⟩ := fK_v h
      rw [ev26]
      refine b_goto (pc' := 27) tb_X3_meetArguments r_X3_meetArguments_89 rfl ?_
      refine b_sub9 [(0, .inr (.inr (.inl 19))), (1, .inl a1), (2, .inl a2), (3, .inl a3), (4, .inl v1), (5, .inl v23), (6, .inl v25), (7, .inl v26)] ⟨rfl, rfl, rfl, rfl, rfl, rfl, rfl, rfl, trivial⟩ ?_
      exact hj27 _ _ _ _ h
  refine b_sub9 [(0, .inr (.inr (.inl 19))), (1, .inl a1), (2, .inl a2), (3, .inl a3), (4, .inl v1), (5, .inl v2), (6, .inl v4), (7, .inl 0)] ⟨rfl, rfl, rfl, rfl, rfl, rfl, rfl, rfl, trivial⟩ ?_
  exact hj27 _ _ _ _ h
noncomputable def m_X4_maskFor (a1 a2 : Nat) (M0 : Nat) : RN :=
  lK M0 2078 12 a2 (fun v1 => jn (fun (M2 : Nat) => lK M2 1418 33 a1 (fun v3 => jn (fun (s4 : Nat) (M5 : Nat) => some (Nat.add s4 2, M5)) (fun (j47 : (Nat →  Nat → RN)) => bK (nNe v3 a2) (j47 1 M2) (lK M2 1484 33 a1 (fun v6 => j47 v6 M2))))) (fun (j27 : ( Nat → RN)) => bK (nEq v1 4294967295) (j27 M0) (lK M0 2078 12 a2 (fun v7 => lK M0 1517 33 v7 (fun v8 => bK (nNe v8 a1) (j27 M0) (some (Nat.add 0 2, M0)))))))
set_option maxRecDepth 100000 in
theorem snd_X4_maskFor {l : Launch} {g : GV} {D : va_G} {sl q : Nat} {a1 a2 M0 : Nat} {r : Nat × Nat} (h : m_X4_maskFor a1 a2 M0 = some r) : SN l g D sl 1 0 q q 62 0 [(0, .inr (.inr (.inl 28))), (1, .inl a1), (2, .inl a2)] [] M0 (PR r) := by
  unfold m_X4_maskFor at h
  refine b_aln (pc' := 1) (a := .inr (.inr (.inl 28))) tb_X4_maskFor r_X4_maskFor_0 rfl rfl rfl ?_
  refine b_gr (pc' := 4) tb_X4_maskFor r_X4_maskFor_1 tF_28_4_14 rfl ?_
  refine b_iln (pc' := 5) (a := .inl a2) tb_X4_maskFor r_X4_maskFor_4 rfl rfl rfl ?_
  obtain ⟨v1, dv1, cv1, h⟩ := lK_in h
  refine b_ia (pc' := 6) tb_X4_maskFor r_X4_maskFor_5 tA_39 dv1 cv1 rfl ?_
  refine b_ic (pc' := 7) (4294967295) tb_X4_maskFor r_X4_maskFor_6 rfl rfl ?_
  refine jn_in (R := fun (j27 : ( Nat → RN)) => ∀ (M2 : Nat), j27 M2 = some r → SN l g D sl 1 0 q q 62 27 [(0, .inr (.inr (.inl 28))), (1, .inl a1), (2, .inl a2)] [] M2 (PR r)) h (fun M2 h => ?_) (fun j27 hj27 h => ?_)
  · skip
    refine b_aln (pc' := 28) (a := .inr (.inr (.inl 28))) tb_X4_maskFor r_X4_maskFor_27 rfl rfl rfl ?_
    refine b_gr (pc' := 31) tb_X4_maskFor r_X4_maskFor_28 tF_28_4_5 rfl ?_
    refine b_iln (pc' := 32) (a := .inl a1) tb_X4_maskFor r_X4_maskFor_31 rfl rfl rfl ?_
    obtain ⟨v3, dv3, cv3, h⟩ := lK_in h
    refine b_ia (pc' := 33) tb_X4_maskFor r_X4_maskFor_32 tA_31 dv3 cv3 rfl ?_
    refine b_iln (pc' := 34) (a := .inl a2) tb_X4_maskFor r_X4_maskFor_33 rfl rfl rfl ?_
    refine jn_in (R := fun (j47 : (Nat → Nat → RN)) => ∀ (s4 M5 : Nat), j47 s4 M5 = some r → SN l g D sl 1 0 q q 62 47 [] [.inl s4] M5 (PR r)) h (fun s4 M5 h => ?_) (fun j47 hj47 h => ?_)
    · skip
      exact b_ri tb_X4_maskFor r_X4_maskFor_47 rfl (sj h).symm
    rcases bK_in h with ⟨c1, h⟩ | ⟨c1, h⟩
    · refine b_icT (t := 46) tb_X4_maskFor r_X4_maskFor_34 rfl ((nNe_c _ _).symm.trans c1) ?_
      refine b_ic (pc' := 47) (1) tb_X4_maskFor r_X4_maskFor_46 rfl rfl ?_
      refine b_sub9 [] trivial ?_
      exact hj47 _ _ h
    · refine b_icF (t := 46) (pc' := 37) tb_X4_maskFor r_X4_maskFor_34 rfl ((nNe_c _ _).symm.trans c1) rfl ?_
      refine b_aln (pc' := 38) (a := .inr (.inr (.inl 28))) tb_X4_maskFor r_X4_maskFor_37 rfl rfl rfl ?_
      refine b_gr (pc' := 41) tb_X4_maskFor r_X4_maskFor_38 tF_28_4_7 rfl ?_
      refine b_iln (pc' := 42) (a := .inl a1) tb_X4_maskFor r_X4_maskFor_41 rfl rfl rfl ?_
      obtain ⟨v6, dv6, cv6, h⟩ := lK_in h
      refine b_ia (pc' := 43) tb_X4_maskFor r_X4_maskFor_42 tA_33 dv6 cv6 rfl ?_
      refine b_goto (pc' := 47) tb_X4_maskFor r_X4_maskFor_43 rfl ?_
      refine b_sub9 [] trivial ?_
      exact hj47 _ _ h
  rcases bK_in h with ⟨c1, h⟩ | ⟨c1, h⟩
  · refine b_icT (t := 27) tb_X4_maskFor r_X4_maskFor_7 rfl ((nEq_c _ _).symm.trans c1) ?_
    exact hj27 _ h
  · refine b_icF (t := 27) (pc' := 10) tb_X4_maskFor r_X4_maskFor_7 rfl ((nEq_c _ _).symm.trans c1) rfl ?_
    refine b_aln (pc' := 11) (a := .inr (.inr (.inl 28))) tb_X4_maskFor r_X4_maskFor_10 rfl rfl rfl ?_
    refine b_gr (pc' := 14) tb_X4_maskFor r_X4_maskFor_11 tF_28_4_8 rfl ?_
    refine b_aln (pc' := 15) (a := .inr (.inr (.inl 28))) tb_X4_maskFor r_X4_maskFor_14 rfl rfl rfl ?_
    refine b_gr (pc' := 18) tb_X4_maskFor r_X4_maskFor_15 tF_28_4_14 rfl ?_
    refine b_iln (pc' := 19) (a := .inl a2) tb_X4_maskFor r_X4_maskFor_18 rfl rfl rfl ?_
    obtain ⟨v7, dv7, cv7, h⟩ := lK_in h
    refine b_ia (pc' := 20) tb_X4_maskFor r_X4_maskFor_19 tA_39 dv7 cv7 rfl ?_
    obtain ⟨v8, dv8, cv8, h⟩ := lK_in h
    refine b_ia (pc' := 21) tb_X4_maskFor r_X4_maskFor_20 tA_34 dv8 cv8 rfl ?_
    refine b_iln (pc' := 22) (a := .inl a1) tb_X4_maskFor r_X4_maskFor_21 rfl rfl rfl ?_
    rcases bK_in h with ⟨c1, h⟩ | ⟨c1, h⟩
    · refine b_icT (t := 27) tb_X4_maskFor r_X4_maskFor_22 rfl ((nNe_c _ _).symm.trans c1) ?_
      exact hj27 _ h
    · refine b_icF (t := 27) (pc' := 25) tb_X4_maskFor r_X4_maskFor_22 rfl ((nNe_c _ _).symm.trans c1) rfl ?_
      refine b_ic (pc' := 26) (0) tb_X4_maskFor r_X4_maskFor_25 rfl rfl ?_
      exact b_ri tb_X4_maskFor r_X4_maskFor_26 rfl (sj h).symm
noncomputable def m_X3_meet (sv : Nat → Nat → RN) (a1 : Nat) (M0 : Nat) : RN :=
  lK M0 1311 7 a1 (fun v1 => lK M0 1318 7 a1 (fun v2 => lK2 M0 281 780 7500 7656 v1 (fun v3 => cI (m_X10_operatorIn v3 M0) (fun v5 M4 => lK M4 28 12 v5 (fun v6 => bK (nLt v6 2) (lK M4 1418 33 v2 (fun v7 => bK (nEq v7 v5) (dvK Nat.mod v3 8 (fun v8 => cV (m_X3_meetArguments sv a1 v8 0 M4) (fun M9 => lK M9 28 12 v5 (fun v10 => bK (nNe v10 1) (some (1, M9)) none)))) (some (1, M4)))) (lK M4 1342 7 a1 (fun v11 => fK (oAdd v1 1) (fun v12 => cI (m_X3_addDuty v12 v2 v11 M4) (fun v14 M13 => sK M13 1325 5 v14 v5 (fun M15 => dvK Nat.mod v3 8 (fun v16 => sK M15 1330 7 v14 v16 (fun M17 => cI (m_X4_maskFor v2 v5 M17) (fun v19 M18 => sK M18 1337 5 v14 v19 (fun M20 => cV (sv v14 M20) (fun M21 => some (1, M21))))))))))))))))
set_option maxRecDepth 100000 in
theorem snd_X3_meet {l : Launch} {g : GV} {D : va_G} {sl q hh : Nat} {sv : Nat → Nat → RN} (hsv : ∀ (a M : Nat) (r : Nat × Nat), sv a M = some r → SN l g D sl hh 0 q q 49 0 [(0, .inr (.inr (.inl 19))), (1, .inl a)] [] M (PR r)) (hb : 1 ≤ hh) {a1 M0 : Nat} {r : Nat × Nat} (h : m_X3_meet sv a1 M0 = some r) : SN l g D sl (hh + 2) 0 q q 51 0 [(0, .inr (.inr (.inl 19))), (1, .inl a1)] [] M0 (PR r) := by
  unfold m_X3_meet at h
  refine b_aln (pc' := 1) (a := .inr (.inr (.inl 19))) tb_X3_meet r_X3_meet_0 rfl rfl rfl ?_
  refine b_gr (pc' := 4) tb_X3_meet r_X3_meet_1 tF_19_3_6 rfl ?_
  refine b_iln (pc' := 5) (a := .inl a1) tb_X3_meet r_X3_meet_4 rfl rfl rfl ?_
  obtain ⟨v1, dv1, cv1, h⟩ := lK_in h
  refine b_ia (pc' := 6) tb_X3_meet r_X3_meet_5 tA_22 dv1 cv1 rfl ?_
  refine b_stn (pc' := 7) [(2, .inl v1), (0, .inr (.inr (.inl 19))), (1, .inl a1)] tb_X3_meet r_X3_meet_6 rfl rfl rfl rfl ?_
  refine b_aln (pc' := 8) (a := .inr (.inr (.inl 19))) tb_X3_meet r_X3_meet_7 rfl rfl rfl ?_
  refine b_gr (pc' := 11) tb_X3_meet r_X3_meet_8 tF_19_3_7 rfl ?_
  refine b_iln (pc' := 12) (a := .inl a1) tb_X3_meet r_X3_meet_11 rfl rfl rfl ?_
  obtain ⟨v2, dv2, cv2, h⟩ := lK_in h
  refine b_ia (pc' := 13) tb_X3_meet r_X3_meet_12 tA_23 dv2 cv2 rfl ?_
  refine b_stn (pc' := 14) [(3, .inl v2), (2, .inl v1), (0, .inr (.inr (.inl 19))), (1, .inl a1)] tb_X3_meet r_X3_meet_13 rfl rfl rfl rfl ?_
  refine b_aln (pc' := 15) (a := .inr (.inr (.inl 19))) tb_X3_meet r_X3_meet_14 rfl rfl rfl ?_
  refine b_gr (pc' := 18) tb_X3_meet r_X3_meet_15 tF_19_3_0 rfl ?_
  refine b_gr (pc' := 21) tb_X3_meet r_X3_meet_18 tF_11_8_1 rfl ?_
  refine b_iln (pc' := 22) (a := .inl v1) tb_X3_meet r_X3_meet_21 rfl rfl rfl ?_
  obtain ⟨v3, _, dv3, cv3, h⟩ := lK2_in h
  refine b_ia2 (pc' := 23) tb_X3_meet r_X3_meet_22 tA_12 dv3 cv3 rfl ?_
  refine b_st (pc' := 25) [(4, .inl v3), (3, .inl v2), (2, .inl v1), (0, .inr (.inr (.inl 19))), (1, .inl a1)] tb_X3_meet r_X3_meet_23 rfl rfl rfl rfl ?_
  refine b_il (pc' := 27) (a := .inl v3) tb_X3_meet r_X3_meet_25 rfl rfl rfl ?_
  obtain ⟨v5, M4, ov5, h⟩ := cI_in h
  refine b_sI (pc' := 30) tb_X3_meet r_X3_meet_27 tb_X10_operatorIn mo_X10_operatorIn (by decide) rfl rfl ov5 (fun r hr => snd_X10_operatorIn hr) (Nat.le_trans (by decide) (Nat.le_trans hb (by omega))) rfl rfl rfl ?_
  refine b_st (pc' := 32) [(5, .inl v5), (4, .inl v3), (3, .inl v2), (2, .inl v1), (0, .inr (.inr (.inl 19))), (1, .inl a1)] tb_X3_meet r_X3_meet_30 rfl rfl rfl rfl ?_
  refine b_aln (pc' := 33) (a := .inr (.inr (.inl 19))) tb_X3_meet r_X3_meet_32 rfl rfl rfl ?_
  refine b_gr (pc' := 36) tb_X3_meet r_X3_meet_33 tF_19_3_1 rfl ?_
  refine b_gr (pc' := 39) tb_X3_meet r_X3_meet_36 tF_1_7_5 rfl ?_
  refine b_il (pc' := 41) (a := .inl v5) tb_X3_meet r_X3_meet_39 rfl rfl rfl ?_
  obtain ⟨v6, dv6, cv6, h⟩ := lK_in h
  refine b_ia (pc' := 42) tb_X3_meet r_X3_meet_41 tA_5 dv6 cv6 rfl ?_
  refine b_ic (pc' := 43) (2) tb_X3_meet r_X3_meet_42 rfl rfl ?_
  rcases bK_in h with ⟨c1, h⟩ | ⟨c1, h⟩
  · refine b_icT (t := 107) tb_X3_meet r_X3_meet_43 rfl ((nLt_c _ _).symm.trans c1) ?_
    refine b_aln (pc' := 108) (a := .inr (.inr (.inl 19))) tb_X3_meet r_X3_meet_107 rfl rfl rfl ?_
    refine b_gr (pc' := 111) tb_X3_meet r_X3_meet_108 tF_19_3_2 rfl ?_
    refine b_gr (pc' := 114) tb_X3_meet r_X3_meet_111 tF_28_4_5 rfl ?_
    refine b_iln (pc' := 115) (a := .inl v2) tb_X3_meet r_X3_meet_114 rfl rfl rfl ?_
    obtain ⟨v7, dv7, cv7, h⟩ := lK_in h
    refine b_ia (pc' := 116) tb_X3_meet r_X3_meet_115 tA_31 dv7 cv7 rfl ?_
    refine b_il (pc' := 118) (a := .inl v5) tb_X3_meet r_X3_meet_116 rfl rfl rfl ?_
    rcases bK_in h with ⟨c1, h⟩ | ⟨c1, h⟩
    · refine b_icT (t := 122) tb_X3_meet r_X3_meet_118 rfl ((nEq_c _ _).symm.trans c1) ?_
      refine b_aln (pc' := 123) (a := .inr (.inr (.inl 19))) tb_X3_meet r_X3_meet_122 rfl rfl rfl ?_
      refine b_iln (pc' := 124) (a := .inl a1) tb_X3_meet r_X3_meet_123 rfl rfl rfl ?_
      refine b_il (pc' := 126) (a := .inl v3) tb_X3_meet r_X3_meet_124 rfl rfl rfl ?_
      refine b_bi (pc' := 128) (8) tb_X3_meet r_X3_meet_126 rfl rfl rfl ?_
      obtain ⟨v8, c1, c2, c3, ev8, h⟩ := dvK_in h
      refine b_rem (pc' := 129) tb_X3_meet r_X3_meet_128 c1 c2 c3 ev8 rfl ?_
      refine b_ic (pc' := 130) (0) tb_X3_meet r_X3_meet_129 rfl rfl ?_
      obtain ⟨M9, oM9, h⟩ := cV_in h
      refine b_vV (pc' := 133) tb_X3_meet r_X3_meet_130 tb_X3_meetArguments mo_X3_meetArguments (by decide) rfl rfl oM9 (fun r hr => snd_X3_meetArguments (sv := sv) hsv (Nat.le_trans (by decide) hb) hr) (by omega) rfl rfl rfl ?_
      refine b_aln (pc' := 134) (a := .inr (.inr (.inl 19))) tb_X3_meet r_X3_meet_133 rfl rfl rfl ?_
      refine b_gr (pc' := 137) tb_X3_meet r_X3_meet_134 tF_19_3_1 rfl ?_
      refine b_gr (pc' := 140) tb_X3_meet r_X3_meet_137 tF_1_7_5 rfl ?_
      refine b_il (pc' := 142) (a := .inl v5) tb_X3_meet r_X3_meet_140 rfl rfl rfl ?_
      obtain ⟨v10, dv10, cv10, h⟩ := lK_in h
      refine b_ia (pc' := 143) tb_X3_meet r_X3_meet_142 tA_5 dv10 cv10 rfl ?_
      refine b_ic (pc' := 144) (1) tb_X3_meet r_X3_meet_143 rfl rfl ?_
      obtain ⟨c1, h⟩ := bK_t h
      refine b_icT (t := 179) tb_X3_meet r_X3_meet_144 rfl ((nNe_c _ _).symm.trans c1) ?_
      exact b_vo tb_X3_meet r_X3_meet_179 (sj h).symm
    · refine b_icF (t := 122) (pc' := 121) tb_X3_meet r_X3_meet_118 rfl ((nEq_c _ _).symm.trans c1) rfl ?_
      exact b_vo tb_X3_meet r_X3_meet_121 (sj h).symm
  · refine b_icF (t := 107) (pc' := 46) tb_X3_meet r_X3_meet_43 rfl ((nLt_c _ _).symm.trans c1) rfl ?_
    refine b_aln (pc' := 47) (a := .inr (.inr (.inl 19))) tb_X3_meet r_X3_meet_46 rfl rfl rfl ?_
    refine b_iln (pc' := 48) (a := .inl v1) tb_X3_meet r_X3_meet_47 rfl rfl rfl ?_
    refine b_ic (pc' := 49) (1) tb_X3_meet r_X3_meet_48 rfl rfl ?_
    refine b_add (pc' := 50) tb_X3_meet r_X3_meet_49 rfl ?_
    refine b_iln (pc' := 51) (a := .inl v2) tb_X3_meet r_X3_meet_50 rfl rfl rfl ?_
    refine b_aln (pc' := 52) (a := .inr (.inr (.inl 19))) tb_X3_meet r_X3_meet_51 rfl rfl rfl ?_
    refine b_gr (pc' := 55) tb_X3_meet r_X3_meet_52 tF_19_3_11 rfl ?_
    refine b_iln (pc' := 56) (a := .inl a1) tb_X3_meet r_X3_meet_55 rfl rfl rfl ?_
    obtain ⟨v11, dv11, cv11, h⟩ := lK_in h
    refine b_ia (pc' := 57) tb_X3_meet r_X3_meet_56 tA_27 dv11 cv11 rfl ?_
    obtain ⟨v12, ev12, h⟩ := fK_v h
    rw [ev12]
    obtain ⟨v14, M13, ov14, h⟩ := cI_in h
    refine b_vI (pc' := 60) tb_X3_meet r_X3_meet_57 tb_X3_addDuty mo_X3_addDuty (by decide) rfl rfl ov14 (fun r hr => snd_X3_addDuty hr) (Nat.le_trans (by decide) (Nat.le_trans hb (by omega))) rfl rfl rfl ?_
    refine b_st (pc' := 62) [(6, .inl v14), (5, .inl v5), (4, .inl v3), (3, .inl v2), (2, .inl v1), (0, .inr (.inr (.inl 19))), (1, .inl a1)] tb_X3_meet r_X3_meet_60 rfl rfl rfl rfl ?_
    refine b_aln (pc' := 63) (a := .inr (.inr (.inl 19))) tb_X3_meet r_X3_meet_62 rfl rfl rfl ?_
    refine b_gr (pc' := 66) tb_X3_meet r_X3_meet_63 tF_19_3_8 rfl ?_
    refine b_il (pc' := 68) (a := .inl v14) tb_X3_meet r_X3_meet_66 rfl rfl rfl ?_
    refine b_il (pc' := 70) (a := .inl v5) tb_X3_meet r_X3_meet_68 rfl rfl rfl ?_
    obtain ⟨M15, dM15, cM15, h⟩ := sK_in h
    refine b_is (pc' := 71) tb_X3_meet r_X3_meet_70 tA_24 dM15 cM15 rfl ?_
    refine b_aln (pc' := 72) (a := .inr (.inr (.inl 19))) tb_X3_meet r_X3_meet_71 rfl rfl rfl ?_
    refine b_gr (pc' := 75) tb_X3_meet r_X3_meet_72 tF_19_3_9 rfl ?_
    refine b_il (pc' := 77) (a := .inl v14) tb_X3_meet r_X3_meet_75 rfl rfl rfl ?_
    refine b_il (pc' := 79) (a := .inl v3) tb_X3_meet r_X3_meet_77 rfl rfl rfl ?_
    refine b_bi (pc' := 81) (8) tb_X3_meet r_X3_meet_79 rfl rfl rfl ?_
    obtain ⟨v16, c1, c2, c3, ev16, h⟩ := dvK_in h
    refine b_rem (pc' := 82) tb_X3_meet r_X3_meet_81 c1 c2 c3 ev16 rfl ?_
    obtain ⟨M17, dM17, cM17, h⟩ := sK_in h
    refine b_is (pc' := 83) tb_X3_meet r_X3_meet_82 tA_25 dM17 cM17 rfl ?_
    refine b_aln (pc' := 84) (a := .inr (.inr (.inl 19))) tb_X3_meet r_X3_meet_83 rfl rfl rfl ?_
    refine b_gr (pc' := 87) tb_X3_meet r_X3_meet_84 tF_19_3_10 rfl ?_
    refine b_il (pc' := 89) (a := .inl v14) tb_X3_meet r_X3_meet_87 rfl rfl rfl ?_
    refine b_aln (pc' := 90) (a := .inr (.inr (.inl 19))) tb_X3_meet r_X3_meet_89 rfl rfl rfl ?_
    refine b_gr (pc' := 93) tb_X3_meet r_X3_meet_90 tF_19_3_2 rfl ?_
    refine b_iln (pc' := 94) (a := .inl v2) tb_X3_meet r_X3_meet_93 rfl rfl rfl ?_
    refine b_il (pc' := 96) (a := .inl v5) tb_X3_meet r_X3_meet_94 rfl rfl rfl ?_
    obtain ⟨v19, M18, ov19, h⟩ := cI_in h
    refine b_vI (pc' := 99) tb_X3_meet r_X3_meet_96 tb_X4_maskFor mo_X4_maskFor (by decide) rfl rfl ov19 (fun r hr => snd_X4_maskFor hr) (Nat.le_trans (by decide) (Nat.le_trans hb (by omega))) rfl rfl rfl ?_
    obtain ⟨M20, dM20, cM20, h⟩ := sK_in h
    refine b_is (pc' := 100) tb_X3_meet r_X3_meet_99 tA_26 dM20 cM20 rfl ?_
    refine b_aln (pc' := 101) (a := .inr (.inr (.inl 19))) tb_X3_meet r_X3_meet_100 rfl rfl rfl ?_
    refine b_il (pc' := 103) (a := .inl v14) tb_X3_meet r_X3_meet_101 rfl rfl rfl ?_
    obtain ⟨M21, oM21, h⟩ := cV_in h
    refine b_vV (pc' := 106) tb_X3_meet r_X3_meet_103 tb_X3_solve mo_X3_solve (by decide) rfl rfl oM21 (fun r hr => hsv _ _ _ hr) (by omega) rfl rfl rfl ?_
    exact b_vo tb_X3_meet r_X3_meet_106 (sj h).symm
noncomputable def m_X7_reaches (a1 a2 : Nat) (M0 : Nat) : RN :=
  fK (oAdd a1 1) (fun v1 => lK M0 4 9 v1 (fun v2 => hK v2 a2 (fun v3 => bK (nNe (oAnd v3 1) 1) none (rbK 1 M0))))
set_option maxRecDepth 100000 in
theorem snd_X7_reaches {l : Launch} {g : GV} {D : va_G} {sl q : Nat} {a1 a2 M0 : Nat} {r : Nat × Nat} (h : m_X7_reaches a1 a2 M0 = some r) : SN l g D sl 1 0 q q 71 0 [(0, .inr (.inr (.inl 1))), (1, .inl a1), (2, .inl a2)] [] M0 (PR r) := by
  unfold m_X7_reaches at h
  refine b_aln (pc' := 1) (a := .inr (.inr (.inl 1))) tb_X7_reaches r_X7_reaches_0 rfl rfl rfl ?_
  refine b_gr (pc' := 4) tb_X7_reaches r_X7_reaches_1 tF_1_7_2 rfl ?_
  refine b_iln (pc' := 5) (a := .inl a1) tb_X7_reaches r_X7_reaches_4 rfl rfl rfl ?_
  refine b_ic (pc' := 6) (1) tb_X7_reaches r_X7_reaches_5 rfl rfl ?_
  refine b_add (pc' := 7) tb_X7_reaches r_X7_reaches_6 rfl ?_
  obtain ⟨v1, ev1, h⟩ := fK_v h
  rw [ev1]
  obtain ⟨v2, dv2, cv2, h⟩ := lK_in h
  refine b_ia (pc' := 8) tb_X7_reaches r_X7_reaches_7 tA_2 dv2 cv2 rfl ?_
  refine b_iln (pc' := 9) (a := .inl a2) tb_X7_reaches r_X7_reaches_8 rfl rfl rfl ?_
  obtain ⟨v3, c1, ev3, h⟩ := hK_in h
  refine b_shr (pc' := 10) tb_X7_reaches r_X7_reaches_9 c1 ev3 rfl ?_
  refine b_ic (pc' := 11) (1) tb_X7_reaches r_X7_reaches_10 rfl rfl ?_
  refine b_and (pc' := 12) tb_X7_reaches r_X7_reaches_11 rfl ?_
  refine b_ic (pc' := 13) (1) tb_X7_reaches r_X7_reaches_12 rfl rfl ?_
  obtain ⟨c1, h⟩ := bK_f h
  refine b_icF (t := 20) (pc' := 16) tb_X7_reaches r_X7_reaches_13 rfl ((nNe_c _ _).symm.trans c1) rfl ?_
  refine b_ic (pc' := 17) (1) tb_X7_reaches r_X7_reaches_16 rfl rfl ?_
  refine b_goto (pc' := 21) tb_X7_reaches r_X7_reaches_17 rfl ?_
  obtain ⟨c1, h⟩ := rbK_in h
  exact b_rb tb_X7_reaches r_X7_reaches_21 rfl c1 h
noncomputable def m_X3_bind (sv : Nat → Nat → RN) (a1 : Nat) (M0 : Nat) : RN :=
  lK M0 1311 7 a1 (fun v1 => lK2 M0 281 780 7500 7656 v1 (fun v2 => lK M0 1318 7 a1 (fun v3 => lK M0 1291 20 v2 (fun v4 => bK (nNe v4 v3) (dvK Nat.mod v2 10 (fun v16 => lK M0 13 3 v16 (fun v17 => lK M0 1291 20 v2 (fun v18 => jn (fun (M19 : Nat) => some (1, M19)) (fun (j109 : ( Nat → RN)) => bK (nNe v18 4294967295) (j109 M0) (lK M0 1259 32 v3 (fun v20 => cI (m_X7_reaches v20 v17 M0) (fun v22 M21 => bK (zEq v22) (j109 M21) (sK M21 1291 20 v2 v3 (fun M23 => lK M23 1342 7 a1 (fun v24 => cV (sv v24 M23) (fun M25 => sK M25 1291 20 v2 4294967295 (fun M26 => j109 M26))))))))))))) none))))
set_option maxRecDepth 100000 in
theorem snd_X3_bind {l : Launch} {g : GV} {D : va_G} {sl q hh : Nat} {sv : Nat → Nat → RN} (hsv : ∀ (a M : Nat) (r : Nat × Nat), sv a M = some r → SN l g D sl hh 0 q q 49 0 [(0, .inr (.inr (.inl 19))), (1, .inl a)] [] M (PR r)) (hb : 1 ≤ hh) {a1 M0 : Nat} {r : Nat × Nat} (h : m_X3_bind sv a1 M0 = some r) : SN l g D sl (hh + 1) 0 q q 50 0 [(0, .inr (.inr (.inl 19))), (1, .inl a1)] [] M0 (PR r) := by
  unfold m_X3_bind at h
  refine b_aln (pc' := 1) (a := .inr (.inr (.inl 19))) tb_X3_bind r_X3_bind_0 rfl rfl rfl ?_
  refine b_gr (pc' := 4) tb_X3_bind r_X3_bind_1 tF_19_3_0 rfl ?_
  refine b_gr (pc' := 7) tb_X3_bind r_X3_bind_4 tF_11_8_1 rfl ?_
  refine b_aln (pc' := 8) (a := .inr (.inr (.inl 19))) tb_X3_bind r_X3_bind_7 rfl rfl rfl ?_
  refine b_gr (pc' := 11) tb_X3_bind r_X3_bind_8 tF_19_3_6 rfl ?_
  refine b_iln (pc' := 12) (a := .inl a1) tb_X3_bind r_X3_bind_11 rfl rfl rfl ?_
  obtain ⟨v1, dv1, cv1, h⟩ := lK_in h
  refine b_ia (pc' := 13) tb_X3_bind r_X3_bind_12 tA_22 dv1 cv1 rfl ?_
  obtain ⟨v2, _, dv2, cv2, h⟩ := lK2_in h
  refine b_ia2 (pc' := 14) tb_X3_bind r_X3_bind_13 tA_12 dv2 cv2 rfl ?_
  refine b_stn (pc' := 15) [(2, .inl v2), (0, .inr (.inr (.inl 19))), (1, .inl a1)] tb_X3_bind r_X3_bind_14 rfl rfl rfl rfl ?_
  refine b_aln (pc' := 16) (a := .inr (.inr (.inl 19))) tb_X3_bind r_X3_bind_15 rfl rfl rfl ?_
  refine b_gr (pc' := 19) tb_X3_bind r_X3_bind_16 tF_19_3_7 rfl ?_
  refine b_iln (pc' := 20) (a := .inl a1) tb_X3_bind r_X3_bind_19 rfl rfl rfl ?_
  obtain ⟨v3, dv3, cv3, h⟩ := lK_in h
  refine b_ia (pc' := 21) tb_X3_bind r_X3_bind_20 tA_23 dv3 cv3 rfl ?_
  refine b_stn (pc' := 22) [(3, .inl v3), (2, .inl v2), (0, .inr (.inr (.inl 19))), (1, .inl a1)] tb_X3_bind r_X3_bind_21 rfl rfl rfl rfl ?_
  refine b_aln (pc' := 23) (a := .inr (.inr (.inl 19))) tb_X3_bind r_X3_bind_22 rfl rfl rfl ?_
  refine b_gr (pc' := 26) tb_X3_bind r_X3_bind_23 tF_19_3_4 rfl ?_
  refine b_iln (pc' := 27) (a := .inl v2) tb_X3_bind r_X3_bind_26 rfl rfl rfl ?_
  obtain ⟨v4, dv4, cv4, h⟩ := lK_in h
  refine b_ia (pc' := 28) tb_X3_bind r_X3_bind_27 tA_21 dv4 cv4 rfl ?_
  refine b_iln (pc' := 29) (a := .inl v3) tb_X3_bind r_X3_bind_28 rfl rfl rfl ?_
  obtain ⟨c1, h⟩ := bK_t h
  refine b_icT (t := 43) tb_X3_bind r_X3_bind_29 rfl ((nNe_c _ _).symm.trans c1) ?_
  refine b_aln (pc' := 44) (a := .inr (.inr (.inl 19))) tb_X3_bind r_X3_bind_43 rfl rfl rfl ?_
  refine b_gr (pc' := 47) tb_X3_bind r_X3_bind_44 tF_19_3_1 rfl ?_
  refine b_gr (pc' := 50) tb_X3_bind r_X3_bind_47 tF_1_7_3 rfl ?_
  refine b_iln (pc' := 51) (a := .inl v2) tb_X3_bind r_X3_bind_50 rfl rfl rfl ?_
  refine b_bi (pc' := 53) (10) tb_X3_bind r_X3_bind_51 rfl rfl rfl ?_
  obtain ⟨v16, c1, c2, c3, ev16, h⟩ := dvK_in h
  refine b_rem (pc' := 54) tb_X3_bind r_X3_bind_53 c1 c2 c3 ev16 rfl ?_
  obtain ⟨v17, dv17, cv17, h⟩ := lK_in h
  refine b_ia (pc' := 55) tb_X3_bind r_X3_bind_54 tA_3 dv17 cv17 rfl ?_
  refine b_st (pc' := 57) [(4, .inl v17), (3, .inl v3), (2, .inl v2), (0, .inr (.inr (.inl 19))), (1, .inl a1)] tb_X3_bind r_X3_bind_55 rfl rfl rfl rfl ?_
  refine b_aln (pc' := 58) (a := .inr (.inr (.inl 19))) tb_X3_bind r_X3_bind_57 rfl rfl rfl ?_
  refine b_gr (pc' := 61) tb_X3_bind r_X3_bind_58 tF_19_3_4 rfl ?_
  refine b_iln (pc' := 62) (a := .inl v2) tb_X3_bind r_X3_bind_61 rfl rfl rfl ?_
  obtain ⟨v18, dv18, cv18, h⟩ := lK_in h
  refine b_ia (pc' := 63) tb_X3_bind r_X3_bind_62 tA_21 dv18 cv18 rfl ?_
  refine b_ic (pc' := 64) (4294967295) tb_X3_bind r_X3_bind_63 rfl rfl ?_
  refine jn_in (R := fun (j109 : ( Nat → RN)) => ∀ (M19 : Nat), j109 M19 = some r → SN l g D sl (hh + 1) 0 q q 50 109 [] [] M19 (PR r)) h (fun M19 h => ?_) (fun j109 hj109 h => ?_)
  · skip
    exact b_vo tb_X3_bind r_X3_bind_109 (sj h).symm
  rcases bK_in h with ⟨c1, h⟩ | ⟨c1, h⟩
  · refine b_icT (t := 109) tb_X3_bind r_X3_bind_64 rfl ((nNe_c _ _).symm.trans c1) ?_
    refine b_sub9 [] trivial ?_
    exact hj109 _ h
  · refine b_icF (t := 109) (pc' := 67) tb_X3_bind r_X3_bind_64 rfl ((nNe_c _ _).symm.trans c1) rfl ?_
    refine b_aln (pc' := 68) (a := .inr (.inr (.inl 19))) tb_X3_bind r_X3_bind_67 rfl rfl rfl ?_
    refine b_gr (pc' := 71) tb_X3_bind r_X3_bind_68 tF_19_3_1 rfl ?_
    refine b_aln (pc' := 72) (a := .inr (.inr (.inl 19))) tb_X3_bind r_X3_bind_71 rfl rfl rfl ?_
    refine b_gr (pc' := 75) tb_X3_bind r_X3_bind_72 tF_19_3_3 rfl ?_
    refine b_iln (pc' := 76) (a := .inl v3) tb_X3_bind r_X3_bind_75 rfl rfl rfl ?_
    obtain ⟨v20, dv20, cv20, h⟩ := lK_in h
    refine b_ia (pc' := 77) tb_X3_bind r_X3_bind_76 tA_20 dv20 cv20 rfl ?_
    refine b_il (pc' := 79) (a := .inl v17) tb_X3_bind r_X3_bind_77 rfl rfl rfl ?_
    obtain ⟨v22, M21, ov22, h⟩ := cI_in h
    refine b_vI (pc' := 82) tb_X3_bind r_X3_bind_79 tb_X7_reaches mo_X7_reaches (by decide) rfl rfl ov22 (fun r hr => snd_X7_reaches hr) (Nat.le_trans (by decide) (Nat.le_trans hb (by omega))) rfl rfl rfl ?_
    rcases bK_in h with ⟨c1, h⟩ | ⟨c1, h⟩
    · refine b_ifT (t := 109) tb_X3_bind r_X3_bind_82 rfl ((zEq_c _).symm.trans c1) ?_
      refine b_sub9 [] trivial ?_
      exact hj109 _ h
    · refine b_ifF (t := 109) (pc' := 85) tb_X3_bind r_X3_bind_82 rfl ((zEq_c _).symm.trans c1) rfl ?_
      refine b_aln (pc' := 86) (a := .inr (.inr (.inl 19))) tb_X3_bind r_X3_bind_85 rfl rfl rfl ?_
      refine b_gr (pc' := 89) tb_X3_bind r_X3_bind_86 tF_19_3_4 rfl ?_
      refine b_iln (pc' := 90) (a := .inl v2) tb_X3_bind r_X3_bind_89 rfl rfl rfl ?_
      refine b_iln (pc' := 91) (a := .inl v3) tb_X3_bind r_X3_bind_90 rfl rfl rfl ?_
      obtain ⟨M23, dM23, cM23, h⟩ := sK_in h
      refine b_is (pc' := 92) tb_X3_bind r_X3_bind_91 tA_21 dM23 cM23 rfl ?_
      refine b_aln (pc' := 93) (a := .inr (.inr (.inl 19))) tb_X3_bind r_X3_bind_92 rfl rfl rfl ?_
      refine b_aln (pc' := 94) (a := .inr (.inr (.inl 19))) tb_X3_bind r_X3_bind_93 rfl rfl rfl ?_
      refine b_gr (pc' := 97) tb_X3_bind r_X3_bind_94 tF_19_3_11 rfl ?_
      refine b_iln (pc' := 98) (a := .inl a1) tb_X3_bind r_X3_bind_97 rfl rfl rfl ?_
      obtain ⟨v24, dv24, cv24, h⟩ := lK_in h
      refine b_ia (pc' := 99) tb_X3_bind r_X3_bind_98 tA_27 dv24 cv24 rfl ?_
      obtain ⟨M25, oM25, h⟩ := cV_in h
      refine b_vV (pc' := 102) tb_X3_bind r_X3_bind_99 tb_X3_solve mo_X3_solve (by decide) rfl rfl oM25 (fun r hr => hsv _ _ _ hr) (by omega) rfl rfl rfl ?_
      refine b_aln (pc' := 103) (a := .inr (.inr (.inl 19))) tb_X3_bind r_X3_bind_102 rfl rfl rfl ?_
      refine b_gr (pc' := 106) tb_X3_bind r_X3_bind_103 tF_19_3_4 rfl ?_
      refine b_iln (pc' := 107) (a := .inl v2) tb_X3_bind r_X3_bind_106 rfl rfl rfl ?_
      refine b_ic (pc' := 108) (4294967295) tb_X3_bind r_X3_bind_107 rfl rfl ?_
      obtain ⟨M26, dM26, cM26, h⟩ := sK_in h
      refine b_is (pc' := 109) tb_X3_bind r_X3_bind_108 tA_21 dM26 cM26 rfl ?_
      refine b_sub9 [] trivial ?_
      exact hj109 _ h
