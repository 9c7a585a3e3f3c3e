/-! the law's loop: forty turns -/
noncomputable def anyN (n : Nat) (k : Nat → Bool) : Bool := @Nat.rec (fun _ => Bool) false (fun i ih => @Bool.rec (fun _ => Bool) ih true (k i)) n
theorem anyN_in {n : Nat} {k : Nat → Bool} (h : anyN n k = true) : ∃ i, i < n ∧ k i = true := by
  induction n with
  | zero => cases h
  | succ n ih =>
    have h : @Bool.rec (fun _ => Bool) (anyN n k) true (k n) = true := h
    cases e : k n with
    | true => exact ⟨n, Nat.lt_succ_self n, e⟩
    | false =>
      rw [e] at h
      obtain ⟨i, h1, h2⟩ := ih h
      exact ⟨i, by omega, h2⟩
theorem anB_in {a b : Bool} (h : anB a b = true) : a = true ∧ b = true := by
  cases a with
  | true => exact ⟨rfl, h⟩
  | false => cases h
noncomputable def bagsMem (x4 x5 x6 M : Nat) : Bool := anyN 3 (fun d0 => anyN 3 (fun d1 => anyN 2 (fun d2 => anyN 2 (fun hs => anB (Nat.beq x4 (smN d0 d1 d2)) (anB (Nat.beq x5 (wyN d0 d1 d2)) (anB (Nat.beq x6 hs) (Nat.beq M (bM d0 d1 d2))))))))
noncomputable def rowsMem (x4 x5 M : Nat) : Bool := anyN 3 (fun d0 => anyN 3 (fun d1 => anyN 2 (fun d2 => anyN 2 (fun hs => anB (Nat.beq x4 (smN d0 d1 d2)) (anB (Nat.beq x5 hs) (Nat.beq M (bM d0 d1 d2)))))))
set_option maxRecDepth 100000 in
theorem ev_bA : m_bagsA bagsMem INV leafB = true := by decide +kernel
set_option maxRecDepth 100000 in
theorem ev_rA : m_rowsA rowsMem INV leafB = true := by decide +kernel
set_option maxRecDepth 100000 in
theorem ev_rz : dB 2 (fun hs => m_rowsB (fun _ _ _ _ => false) 0 hs (bM 0 0 0) leafB) = true := by decide +kernel
theorem lt3 {p : Nat → Prop} (h0 : p 0) (h1 : p 1) (h2 : p 2) : ∀ i, i < 3 → p i := by
  intro i hi
  match i, hi with
  | 0, _ => exact h0
  | 1, _ => exact h1
  | 2, _ => exact h2
theorem lt2 {p : Nat → Prop} (h0 : p 0) (h1 : p 1) : ∀ i, i < 2 → p i := by
  intro i hi
  match i, hi with
  | 0, _ => exact h0
  | 1, _ => exact h1
theorem lt4 {p : Nat → Prop} (h0 : p 0) (h1 : p 1) (h2 : p 2) (h3 : p 3) : ∀ i, i < 4 → p i := by
  intro i hi
  match i, hi with
  | 0, _ => exact h0
  | 1, _ => exact h1
  | 2, _ => exact h2
  | 3, _ => exact h3
theorem ev_bs : ∀ d0, d0 < 3 → ∀ d1, d1 < 3 → ∀ d2, d2 < 2 → evb d0 d1 d2 = true := by
  intro d0 h0 d1 h1 d2 h2
  match d0, h0, d1, h1, d2, h2 with
  | 0, _, 0, _, 0, _ => exact ev_b_000
  | 0, _, 0, _, 1, _ => exact ev_b_001
  | 0, _, 1, _, 0, _ => exact ev_b_010
  | 0, _, 1, _, 1, _ => exact ev_b_011
  | 0, _, 2, _, 0, _ => exact ev_b_020
  | 0, _, 2, _, 1, _ => exact ev_b_021
  | 1, _, 0, _, 0, _ => exact ev_b_100
  | 1, _, 0, _, 1, _ => exact ev_b_101
  | 1, _, 1, _, 0, _ => exact ev_b_110
  | 1, _, 1, _, 1, _ => exact ev_b_111
  | 1, _, 2, _, 0, _ => exact ev_b_120
  | 1, _, 2, _, 1, _ => exact ev_b_121
  | 2, _, 0, _, 0, _ => exact ev_b_200
  | 2, _, 0, _, 1, _ => exact ev_b_201
  | 2, _, 1, _, 0, _ => exact ev_b_210
  | 2, _, 1, _, 1, _ => exact ev_b_211
  | 2, _, 2, _, 0, _ => exact ev_b_220
  | 2, _, 2, _, 1, _ => exact ev_b_221
theorem ev_rs : ∀ d0, d0 < 3 → ∀ d1, d1 < 3 → ∀ d2, d2 < 2 → ∀ hs, hs < 2 → evr d0 d1 d2 hs = true := by
  intro d0 h0 d1 h1 d2 h2 hs h3
  match d0, h0, d1, h1, d2, h2, hs, h3 with
  | 0, _, 0, _, 0, _, 0, _ => exact ev_r_0000
  | 0, _, 0, _, 0, _, 1, _ => exact ev_r_0001
  | 0, _, 0, _, 1, _, 0, _ => exact ev_r_0010
  | 0, _, 0, _, 1, _, 1, _ => exact ev_r_0011
  | 0, _, 1, _, 0, _, 0, _ => exact ev_r_0100
  | 0, _, 1, _, 0, _, 1, _ => exact ev_r_0101
  | 0, _, 1, _, 1, _, 0, _ => exact ev_r_0110
  | 0, _, 1, _, 1, _, 1, _ => exact ev_r_0111
  | 0, _, 2, _, 0, _, 0, _ => exact ev_r_0200
  | 0, _, 2, _, 0, _, 1, _ => exact ev_r_0201
  | 0, _, 2, _, 1, _, 0, _ => exact ev_r_0210
  | 0, _, 2, _, 1, _, 1, _ => exact ev_r_0211
  | 1, _, 0, _, 0, _, 0, _ => exact ev_r_1000
  | 1, _, 0, _, 0, _, 1, _ => exact ev_r_1001
  | 1, _, 0, _, 1, _, 0, _ => exact ev_r_1010
  | 1, _, 0, _, 1, _, 1, _ => exact ev_r_1011
  | 1, _, 1, _, 0, _, 0, _ => exact ev_r_1100
  | 1, _, 1, _, 0, _, 1, _ => exact ev_r_1101
  | 1, _, 1, _, 1, _, 0, _ => exact ev_r_1110
  | 1, _, 1, _, 1, _, 1, _ => exact ev_r_1111
  | 1, _, 2, _, 0, _, 0, _ => exact ev_r_1200
  | 1, _, 2, _, 0, _, 1, _ => exact ev_r_1201
  | 1, _, 2, _, 1, _, 0, _ => exact ev_r_1210
  | 1, _, 2, _, 1, _, 1, _ => exact ev_r_1211
  | 2, _, 0, _, 0, _, 0, _ => exact ev_r_2000
  | 2, _, 0, _, 0, _, 1, _ => exact ev_r_2001
  | 2, _, 0, _, 1, _, 0, _ => exact ev_r_2010
  | 2, _, 0, _, 1, _, 1, _ => exact ev_r_2011
  | 2, _, 1, _, 0, _, 0, _ => exact ev_r_2100
  | 2, _, 1, _, 0, _, 1, _ => exact ev_r_2101
  | 2, _, 1, _, 1, _, 0, _ => exact ev_r_2110
  | 2, _, 1, _, 1, _, 1, _ => exact ev_r_2111
  | 2, _, 2, _, 0, _, 0, _ => exact ev_r_2200
  | 2, _, 2, _, 0, _, 1, _ => exact ev_r_2201
  | 2, _, 2, _, 1, _, 0, _ => exact ev_r_2210
  | 2, _, 2, _, 1, _, 1, _ => exact ev_r_2211
theorem ev_ss : ∀ d0, d0 < 3 → ∀ d1, d1 < 3 → ∀ d2, d2 < 2 → ∀ hs, hs < 2 → ¬ (d0 = 0 ∧ d1 = 0 ∧ d2 = 0) → evs d0 d1 d2 hs = true := by
  intro d0 h0 d1 h1 d2 h2 hs h3 hz
  match d0, h0, d1, h1, d2, h2, hs, h3, hz with
  | 0, _, 0, _, 0, _, 0, _, hz => exact absurd ⟨rfl, rfl, rfl⟩ hz
  | 0, _, 0, _, 0, _, 1, _, hz => exact absurd ⟨rfl, rfl, rfl⟩ hz
  | 0, _, 0, _, 1, _, 0, _, hz => exact ev_s_0010
  | 0, _, 0, _, 1, _, 1, _, hz => exact ev_s_0011
  | 0, _, 1, _, 0, _, 0, _, hz => exact ev_s_0100
  | 0, _, 1, _, 0, _, 1, _, hz => exact ev_s_0101
  | 0, _, 1, _, 1, _, 0, _, hz => exact ev_s_0110
  | 0, _, 1, _, 1, _, 1, _, hz => exact ev_s_0111
  | 0, _, 2, _, 0, _, 0, _, hz => exact ev_s_0200
  | 0, _, 2, _, 0, _, 1, _, hz => exact ev_s_0201
  | 0, _, 2, _, 1, _, 0, _, hz => exact ev_s_0210
  | 0, _, 2, _, 1, _, 1, _, hz => exact ev_s_0211
  | 1, _, 0, _, 0, _, 0, _, hz => exact ev_s_1000
  | 1, _, 0, _, 0, _, 1, _, hz => exact ev_s_1001
  | 1, _, 0, _, 1, _, 0, _, hz => exact ev_s_1010
  | 1, _, 0, _, 1, _, 1, _, hz => exact ev_s_1011
  | 1, _, 1, _, 0, _, 0, _, hz => exact ev_s_1100
  | 1, _, 1, _, 0, _, 1, _, hz => exact ev_s_1101
  | 1, _, 1, _, 1, _, 0, _, hz => exact ev_s_1110
  | 1, _, 1, _, 1, _, 1, _, hz => exact ev_s_1111
  | 1, _, 2, _, 0, _, 0, _, hz => exact ev_s_1200
  | 1, _, 2, _, 0, _, 1, _, hz => exact ev_s_1201
  | 1, _, 2, _, 1, _, 0, _, hz => exact ev_s_1210
  | 1, _, 2, _, 1, _, 1, _, hz => exact ev_s_1211
  | 2, _, 0, _, 0, _, 0, _, hz => exact ev_s_2000
  | 2, _, 0, _, 0, _, 1, _, hz => exact ev_s_2001
  | 2, _, 0, _, 1, _, 0, _, hz => exact ev_s_2010
  | 2, _, 0, _, 1, _, 1, _, hz => exact ev_s_2011
  | 2, _, 1, _, 0, _, 0, _, hz => exact ev_s_2100
  | 2, _, 1, _, 0, _, 1, _, hz => exact ev_s_2101
  | 2, _, 1, _, 1, _, 0, _, hz => exact ev_s_2110
  | 2, _, 1, _, 1, _, 1, _, hz => exact ev_s_2111
  | 2, _, 2, _, 0, _, 0, _, hz => exact ev_s_2200
  | 2, _, 2, _, 0, _, 1, _, hz => exact ev_s_2201
  | 2, _, 2, _, 1, _, 0, _, hz => exact ev_s_2210
  | 2, _, 2, _, 1, _, 1, _, hz => exact ev_s_2211
theorem ev_k0 : ∀ a, a < 4 → ∀ b, b < 4 → ∀ c, c < 4 → m_law0 a b c INV = true := fun a ha b hb c hc => dB_in (dB_in (lt4 (p := fun a => dB 4 (fun b => dB 4 (fun c => m_law0 a b c INV)) = true) ev_k0_0 ev_k0_1 ev_k0_2 ev_k0_3 a ha) b hb) c hc
theorem ev_k1 : ∀ a, a < 4 → ∀ b, b < 4 → ∀ c, c < 4 → m_law1 a b c INV = true := fun a ha b hb c hc => dB_in (dB_in (lt4 (p := fun a => dB 4 (fun b => dB 4 (fun c => m_law1 a b c INV)) = true) ev_k1_0 ev_k1_1 ev_k1_2 ev_k1_3 a ha) b hb) c hc
section LOOP
variable {l : Launch} {g : GV} {D : va_G} {sl : Nat}
theorem snd_bags : SN l g D sl 188 3 0 1 95 0 [(0, .inr (.inr (.inl 0))), (1, UNK), (2, UNK)] [] INV (PT leafB) := by
  refine snd_bagsA (B4 := bagsMem) (fun a4 a5 a6 M h => ?_) ev_bA
  obtain ⟨d0, h0, h⟩ := anyN_in h
  obtain ⟨d1, h1, h⟩ := anyN_in h
  obtain ⟨d2, h2, h⟩ := anyN_in h
  obtain ⟨hs, h3, h⟩ := anyN_in h
  obtain ⟨e4, h⟩ := anB_in h
  obtain ⟨e5, h⟩ := anB_in h
  obtain ⟨e6, h⟩ := anB_in h
  rw [Nat.eq_of_beq_eq_true e4, Nat.eq_of_beq_eq_true e5, Nat.eq_of_beq_eq_true e6, Nat.eq_of_beq_eq_true h]
  exact snd_bagsB (dB_in (ev_bs d0 h0 d1 h1 d2 h2) hs h3)
theorem snd_rows : SN l g D sl 188 3 0 1 97 0 [(0, .inr (.inr (.inl 0))), (1, UNK), (2, UNK)] [] INV (PT leafB) := by
  refine snd_rowsA (B4 := rowsMem) (fun a4 a5 M h => ?_) ev_rA
  obtain ⟨d0, h0, h⟩ := anyN_in h
  obtain ⟨d1, h1, h⟩ := anyN_in h
  obtain ⟨d2, h2, h⟩ := anyN_in h
  obtain ⟨hs, h3, h⟩ := anyN_in h
  obtain ⟨e4, h⟩ := anB_in h
  obtain ⟨e5, h⟩ := anB_in h
  rw [Nat.eq_of_beq_eq_true e4, Nat.eq_of_beq_eq_true e5, Nat.eq_of_beq_eq_true h]
  by_cases hz : d0 = 0 ∧ d1 = 0 ∧ d2 = 0
  · obtain ⟨rfl, rfl, rfl⟩ := hz
    exact snd_rowsB (B4 := fun _ _ _ _ => false) (fun _ _ _ _ h => by cases h) (dB_in ev_rz hs h3)
  · refine snd_rowsB (B4 := mid d0 d1 d2 hs) (fun a4 a5 a6 M h => ?_) (ev_rs d0 h0 d1 h1 d2 h2 hs h3)
    obtain ⟨f4, h⟩ := anB_in h
    obtain ⟨f5, h⟩ := anB_in h
    obtain ⟨f6, h⟩ := anB_in h
    refine b_ct mok_MB (Nat.eq_of_beq_eq_true h) ?_
    rw [Nat.eq_of_beq_eq_true f4, Nat.eq_of_beq_eq_true f5, Nat.eq_of_beq_eq_true f6]
    exact snd_rowsC (ev_ss d0 h0 d1 h1 d2 h2 hs h3 hz)
theorem r_L_law_585 : IOK WB AD SR FW TB md_L_law 585 (.iconst 1, 0, 0, 0, []) := io_plain (by decide +kernel) rfl
theorem r_L_law_586 : IOK WB AD SR FW TB md_L_law 586 (.ireturn, 0, 0, 0, []) := io_plain (by decide +kernel) rfl
/-- one turn -/
theorem turn (hg : g.2.2 < 2147483648) {P : Nat → Nat → Prop} {a2 ur : Nat} (ha : a2 < 40) (IH : SN l g D sl 191 ur 0 0 0 258 [(0, SCR), (1, .inr (.inr (.inl 0))), (2, .inl (a2 + 1))] [] INV P) : SN l g D sl 191 (3 + ur) 0 0 0 258 [(0, SCR), (1, .inr (.inr (.inl 0))), (2, .inl a2)] [] INV P := by
  have hK : ∀ M : Nat, leafB M = true → SN l g D sl 191 (0 + ur) 0 0 0 579 [(0, SCR), (1, .inr (.inr (.inl 0))), (2, .inl a2)] [] M P := by
    intro M hM
    refine b_ct mok_MI (Nat.eq_of_beq_eq_true hM) ?_
    refine b_inc (pc' := 582) (v := a2) (n := 1) [(2, .inl (oAdd a2 1)), (0, SCR), (1, .inr (.inr (.inl 0)))] tb_L_law r_L_law_579 rfl rfl rfl rfl rfl ?_
    refine b_goto (pc' := 258) tb_L_law r_L_law_582 rfl ?_
    have e : oAdd a2 1 = a2 + 1 := by show (a2 + 1) % 4294967296 = a2 + 1; omega
    rw [e, Nat.zero_add]
    exact b_sub9 [(0, SCR), (1, .inr (.inr (.inl 0))), (2, .inl (a2 + 1))] ⟨rfl, rfl, rfl, trivial⟩ IH
  have hm : ∀ k, oMul 2 a2 + k < 2147483648 ∨ 1 < k := by
    intro k
    have : oMul 2 a2 = 2 * a2 := by show 2 * a2 % 4294967296 = 2 * a2; omega
    omega
  have hm0 : oMul 2 a2 < 2147483648 := by have := hm 0; omega
  have hm1 : oAdd (oMul 2 a2) 1 < 2147483648 := by
    have := hm 1
    show (oMul 2 a2 + 1) % 4294967296 < 2147483648
    omega
  refine b_iln (pc' := 259) (a := .inl a2) tb_L_law r_L_law_258 rfl rfl rfl ?_
  refine b_bi (pc' := 261) (40) tb_L_law r_L_law_259 rfl rfl rfl ?_
  refine b_icF (t := 585) (pc' := 264) tb_L_law r_L_law_261 rfl ?_ rfl ?_
  · cases hc : cN .ge a2 40 with
    | false => rfl
    | true =>
      have h9 : (40 + 2147483648) % 4294967296 ≤ (a2 + 2147483648) % 4294967296 := Nat.le_of_ble_eq_true hc
      omega
  refine b_aln (pc' := 265) (a := SCR) tb_L_law r_L_law_264 rfl rfl rfl ?_
  refine b_ic (pc' := 266) (2) tb_L_law r_L_law_265 rfl rfl ?_
  refine b_iln (pc' := 267) (a := .inl a2) tb_L_law r_L_law_266 rfl rfl rfl ?_
  refine b_mul (pc' := 268) tb_L_law r_L_law_267 rfl ?_
  refine b_cell (pc' := 271) hg hm0 tb_L_law r_L_law_268 rfl (by decide) rfl ?_
  refine b_stn (pc' := 272) [(3, UNK), (0, SCR), (1, .inr (.inr (.inl 0))), (2, .inl a2)] tb_L_law r_L_law_271 rfl rfl rfl rfl ?_
  refine b_aln (pc' := 273) (a := SCR) tb_L_law r_L_law_272 rfl rfl rfl ?_
  refine b_ic (pc' := 274) (2) tb_L_law r_L_law_273 rfl rfl ?_
  refine b_iln (pc' := 275) (a := .inl a2) tb_L_law r_L_law_274 rfl rfl rfl ?_
  refine b_mul (pc' := 276) tb_L_law r_L_law_275 rfl ?_
  refine b_ic (pc' := 277) (1) tb_L_law r_L_law_276 rfl rfl ?_
  refine b_add (pc' := 278) tb_L_law r_L_law_277 rfl ?_
  refine b_cell (pc' := 281) hg hm1 tb_L_law r_L_law_278 rfl (by decide) rfl ?_
  refine b_st (pc' := 283) [(4, UNK), (3, UNK), (0, SCR), (1, .inr (.inr (.inl 0))), (2, .inl a2)] tb_L_law r_L_law_281 rfl rfl rfl rfl ?_
  refine b_iln (pc' := 284) (a := UNK) tb_L_law r_L_law_283 rfl rfl rfl ?_
  refine b_ic (pc' := 285) (2) tb_L_law r_L_law_284 rfl rfl ?_
  refine b_ps (pc' := 286) (als' := [(4, UNK), (3, UNK), (0, SCR), (1, .inr (.inr (.inl 0))), (2, .inl a2)]) (ast' := [UNK]) tb_L_law r_L_law_285.1 rfl ?_
  refine b_ic (pc' := 287) (4) tb_L_law r_L_law_286 rfl rfl ?_
  refine b_low (pc' := 290) 4 (by decide) (by decide) tb_L_law r_L_law_287 rfl (by decide) rfl (fun a5 h5 => ?_)
  refine b_st (pc' := 292) [(5, .inl a5), (4, UNK), (3, UNK), (0, SCR), (1, .inr (.inr (.inl 0))), (2, .inl a2)] tb_L_law r_L_law_290 rfl rfl rfl rfl ?_
  refine b_iln (pc' := 293) (a := UNK) tb_L_law r_L_law_292 rfl rfl rfl ?_
  refine b_ic (pc' := 294) (4) tb_L_law r_L_law_293 rfl rfl ?_
  refine b_ps (pc' := 295) (als' := [(5, .inl a5), (4, UNK), (3, UNK), (0, SCR), (1, .inr (.inr (.inl 0))), (2, .inl a2)]) (ast' := [UNK]) tb_L_law r_L_law_294.1 rfl ?_
  refine b_ic (pc' := 296) (4) tb_L_law r_L_law_295 rfl rfl ?_
  refine b_low (pc' := 299) 4 (by decide) (by decide) tb_L_law r_L_law_296 rfl (by decide) rfl (fun a6 h6 => ?_)
  refine b_st (pc' := 301) [(6, .inl a6), (5, .inl a5), (4, UNK), (3, UNK), (0, SCR), (1, .inr (.inr (.inl 0))), (2, .inl a2)] tb_L_law r_L_law_299 rfl rfl rfl rfl ?_
  refine b_iln (pc' := 302) (a := UNK) tb_L_law r_L_law_301 rfl rfl rfl ?_
  refine b_bi (pc' := 304) (6) tb_L_law r_L_law_302 rfl rfl rfl ?_
  refine b_ps (pc' := 305) (als' := [(6, .inl a6), (5, .inl a5), (4, UNK), (3, UNK), (0, SCR), (1, .inr (.inr (.inl 0))), (2, .inl a2)]) (ast' := [UNK]) tb_L_law r_L_law_304.1 rfl ?_
  refine b_ic (pc' := 306) (4) tb_L_law r_L_law_305 rfl rfl ?_
  refine b_low (pc' := 309) 4 (by decide) (by decide) tb_L_law r_L_law_306 rfl (by decide) rfl (fun a7 h7 => ?_)
  refine b_st (pc' := 311) [(7, .inl a7), (6, .inl a6), (5, .inl a5), (4, UNK), (3, UNK), (0, SCR), (1, .inr (.inr (.inl 0))), (2, .inl a2)] tb_L_law r_L_law_309 rfl rfl rfl rfl ?_
  refine b_il (pc' := 313) (a := UNK) tb_L_law r_L_law_311 rfl rfl rfl ?_
  refine b_ic (pc' := 314) (4) tb_L_law r_L_law_313 rfl rfl ?_
  refine b_low (pc' := 317) 4 (by decide) (by decide) tb_L_law r_L_law_314 rfl (by decide) rfl (fun a8 h8 => ?_)
  refine b_st (pc' := 319) [(8, .inl a8), (7, .inl a7), (6, .inl a6), (5, .inl a5), (4, UNK), (3, UNK), (0, SCR), (1, .inr (.inr (.inl 0))), (2, .inl a2)] tb_L_law r_L_law_317 rfl rfl rfl rfl ?_
  refine b_il (pc' := 321) (a := .inl a8) tb_L_law r_L_law_319 rfl rfl rfl ?_
  match a8, h8 with
  | 0, _ =>
    refine b_ifF (t := 410) (pc' := 324) tb_L_law r_L_law_321 rfl rfl rfl ?_
    refine SN.uup (u := (0 + ur)) (by omega) ?_
    refine b_sub9 [(0, SCR), (1, .inr (.inr (.inl 0))), (2, .inl a2), (3, UNK), (4, UNK), (5, .inl a5), (6, .inl a6), (7, .inl a7), (8, .inl 0)] ⟨rfl, rfl, rfl, rfl, rfl, rfl, rfl, rfl, rfl, trivial⟩ ?_
    exact snd_law0 hK (ev_k0 a5 h5 a6 h6 a7 h7)
  | 1, _ =>
    refine b_ifT (t := 410) tb_L_law r_L_law_321 rfl rfl ?_
    refine b_il (pc' := 412) (a := .inl 1) tb_L_law r_L_law_410 rfl rfl rfl ?_
    refine b_ic (pc' := 413) (1) tb_L_law r_L_law_412 rfl rfl ?_
    refine b_icF (t := 548) (pc' := 416) tb_L_law r_L_law_413 rfl rfl rfl ?_
    refine b_sub9 [(0, SCR), (1, .inr (.inr (.inl 0))), (2, .inl a2), (3, UNK), (4, UNK), (5, .inl a5), (6, .inl a6), (7, .inl a7), (8, .inl 1)] ⟨rfl, rfl, rfl, rfl, rfl, rfl, rfl, rfl, rfl, trivial⟩ ?_
    exact snd_law1 hK (ev_k1 a5 h5 a6 h6 a7 h7)
  | 2, _ =>
    refine b_ifT (t := 410) tb_L_law r_L_law_321 rfl rfl ?_
    refine b_il (pc' := 412) (a := .inl 2) tb_L_law r_L_law_410 rfl rfl rfl ?_
    refine b_ic (pc' := 413) (1) tb_L_law r_L_law_412 rfl rfl ?_
    refine b_icT (t := 548) tb_L_law r_L_law_413 rfl rfl ?_
    refine b_il (pc' := 550) (a := .inl 2) tb_L_law r_L_law_548 rfl rfl rfl ?_
    refine b_ic (pc' := 551) (2) tb_L_law r_L_law_550 rfl rfl ?_
    refine b_icF (t := 567) (pc' := 554) tb_L_law r_L_law_551 rfl rfl rfl ?_
    refine b_aln (pc' := 555) (a := .inr (.inr (.inl 0))) tb_L_law r_L_law_554 rfl rfl rfl ?_
    refine b_iln (pc' := 556) (a := UNK) tb_L_law r_L_law_555 rfl rfl rfl ?_
    refine b_il (pc' := 558) (a := UNK) tb_L_law r_L_law_556 rfl rfl rfl ?_
    refine b_sTK (u1 := 3) (u2 := (0 + ur)) (q1 := 1) (pc' := 561) tb_L_law r_L_law_558 tb_L_bags mo_L_bags (by decide) rfl rfl (by decide) snd_bags (by decide) rfl rfl (by omega) rfl (fun M h => ?_)
    refine b_ifT (t := 579) tb_L_law r_L_law_561 rfl rfl ?_
    refine b_sub9 [(0, SCR), (1, .inr (.inr (.inl 0))), (2, .inl a2)] ⟨rfl, rfl, rfl, trivial⟩ ?_
    refine SN.drop (q0 := 0) (by decide) (by decide) (drA_in ⟨trivial, (show (0 : Nat) < N0 + 0 by decide), trivial, trivial⟩) rfl ?_
    exact hK M h
  | 3, _ =>
    refine b_ifT (t := 410) tb_L_law r_L_law_321 rfl rfl ?_
    refine b_il (pc' := 412) (a := .inl 3) tb_L_law r_L_law_410 rfl rfl rfl ?_
    refine b_ic (pc' := 413) (1) tb_L_law r_L_law_412 rfl rfl ?_
    refine b_icT (t := 548) tb_L_law r_L_law_413 rfl rfl ?_
    refine b_il (pc' := 550) (a := .inl 3) tb_L_law r_L_law_548 rfl rfl rfl ?_
    refine b_ic (pc' := 551) (2) tb_L_law r_L_law_550 rfl rfl ?_
    refine b_icT (t := 567) tb_L_law r_L_law_551 rfl rfl ?_
    refine b_aln (pc' := 568) (a := .inr (.inr (.inl 0))) tb_L_law r_L_law_567 rfl rfl rfl ?_
    refine b_iln (pc' := 569) (a := UNK) tb_L_law r_L_law_568 rfl rfl rfl ?_
    refine b_il (pc' := 571) (a := UNK) tb_L_law r_L_law_569 rfl rfl rfl ?_
    refine b_sTK (u1 := 3) (u2 := (0 + ur)) (q1 := 1) (pc' := 574) tb_L_law r_L_law_571 tb_L_rows mo_L_rows (by decide) rfl rfl (by decide) snd_rows (by decide) rfl rfl (by omega) rfl (fun M h => ?_)
    refine b_ifT (t := 579) tb_L_law r_L_law_574 rfl rfl ?_
    refine b_sub9 [(0, SCR), (1, .inr (.inr (.inl 0))), (2, .inl a2)] ⟨rfl, rfl, rfl, trivial⟩ ?_
    refine SN.drop (q0 := 0) (by decide) (by decide) (drA_in ⟨trivial, (show (0 : Nat) < N0 + 0 by decide), trivial, trivial⟩) rfl ?_
    exact hK M h
theorem turns (hg : g.2.2 < 2147483648) {P : Nat → Nat → Prop} (hP : ∀ M, P 3 M) (n : Nat) (hn : n ≤ 40) : SN l g D sl 191 (3 * n) 0 0 0 258 [(0, SCR), (1, .inr (.inr (.inl 0))), (2, .inl (40 - n))] [] INV P := by
  induction n with
  | zero =>
    refine b_iln (pc' := 259) (a := .inl 40) tb_L_law r_L_law_258 rfl rfl rfl ?_
    refine b_bi (pc' := 261) (40) tb_L_law r_L_law_259 rfl rfl rfl ?_
    refine b_icT (t := 585) tb_L_law r_L_law_261 rfl rfl ?_
    refine b_ic (pc' := 586) (1) tb_L_law r_L_law_585 rfl rfl ?_
    exact b_rb tb_L_law r_L_law_586 rfl rfl (hP INV)
  | succ n ih =>
    have h1 := ih (by omega)
    have e1 : 3 * (n + 1) = 3 + 3 * n := by omega
    have e2 : 40 - n = (40 - (n + 1)) + 1 := by omega
    rw [e2] at h1
    rw [e1]
    exact turn hg (by omega) h1
end LOOP
