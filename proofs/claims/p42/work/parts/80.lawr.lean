/-! the law's own rules: some int, draws, new rows, a throw that is caught; trees that say true or false -/
abbrev UNK : AV := .inr (.inr (.inr (.inr 1)))
abbrev SCR : AV := .inr (.inr (.inr (.inr 2)))
section LR9
variable {l : Launch} {g : GV} {D : va_G} {sl h u q q' mi pc pc' : Nat} {md : MD} {tl : List (Nat × IE)} {x y z : Nat} {fk : List Nat} {als als' alsC : Als} {ast ast' rest : List AV} {M M' : Nat} {P : Nat → Nat → Prop}
theorem unkT (k : ∀ n : Nat, SN l g D sl h u q q' mi pc als (.inl n :: rest) M P) : SN l g D sl h u q q' mi pc als (UNK :: rest) M P := by
  intro mt hmt dep hdep p e R s m args below meth c H locs cells slots Q A ρ tys ls st C hR hL hS hu hv K
  obtain ⟨v1, s1, rfl, hr1, hS1⟩ := F2_cons hS
  obtain ⟨x, rfl⟩ := hr1
  exact k (i2n x.toInt) mt hmt dep hdep p e R s m args below meth c H locs cells slots Q A ρ tys ls _ C hR hL (F2_mk (show Value.int x = Value.int (nI (i2n x.toInt)) by rw [← i2n_ok, Int32.ofInt_toInt]) hS1) hu hv K
theorem toUnk {n : Nat} (k : SN l g D sl h u q q' mi pc als (UNK :: rest) M P) : SN l g D sl h u q q' mi pc als (.inl n :: rest) M P := by
  intro mt hmt dep hdep p e R s m args below meth c H locs cells slots Q A ρ tys ls st C hR hL hS hu hv K
  obtain ⟨v1, s1, rfl, hr1, hS1⟩ := F2_cons hS
  exact k mt hmt dep hdep p e R s m args below meth c H locs cells slots Q A ρ tys ls _ C hR hL (F2_mk ⟨nI n, hr1⟩ hS1) hu hv K
theorem b_len0 (hm : TB[mi]? = some (md, tl)) (hI : IOK WB AD SR FW TB md pc (.arraylength, x, y, z, fk)) (e : pc + 1 = pc') (k : SN l g D sl h u q q' mi pc' als (.inl g.2.2 :: ast) M P) : SN l g D sl h u q q' mi pc als (SCR :: ast) M P := by
  subst e
  intro mt hmt dep hdep p e R s m args below meth c H locs cells slots Q A ρ tys ls st C hR hL hS hu hv K
  cases hm.symm.trans hmt
  obtain ⟨hx, hb, hml, hts, hown, hin, hA, hAmb, hRR, hlt, hlk, htab, hret, hscr⟩ := id C
  obtain ⟨a1, a2, a3, ⟨xs, hX, hbl, hbA⟩, a5⟩ := hAmb
  obtain ⟨v, vs, rfl, hr1, hS1⟩ := F2_cons hS
  rw [show v = .ref g.2.1 from hr1]
  exact va_slen hx hb hX hbl hbA (HRN_S hR) hI.1 (k _ hmt dep hdep p e R s m args below meth c H locs cells slots Q A ρ tys ls _ C hR hL (F2_mk rfl hS1) hu hv K)
theorem b_sld {n : Nat} (hm : TB[mi]? = some (md, tl)) (hI : IOK WB AD SR FW TB md pc (.iaload, x, y, z, fk)) (hg : g.2.2 < 2147483648) (hn : n < g.2.2) (e : pc + 1 = pc') (k : SN l g D sl h u q q' mi pc' als (UNK :: ast) M P) : SN l g D sl h u q q' mi pc als (.inl n :: SCR :: ast) M P := by
  subst e
  intro mt hmt dep hdep p e R s m args below meth c H locs cells slots Q A ρ tys ls st C hR hL hS hu hv K
  cases hm.symm.trans hmt
  obtain ⟨hx, hb, hml, hts, hown, hin, hA, hAmb, hRR, hlt, hlk, htab, hret, hscr⟩ := id C
  obtain ⟨a1, a2, a3, ⟨xs, hX, hbl, hbA⟩, a5⟩ := hAmb
  obtain ⟨v0, vs0, rfl, hr0, hS0⟩ := F2_cons hS
  obtain ⟨v, vs, rfl, hr1, hS1⟩ := F2_cons hS0
  rw [show v = .ref g.2.1 from hr1, show v0 = .int (nI n) from hr0]
  exact va_sld hx hb hX hbl hbA (HRN_S hR) (vp_in_nI hn (by omega)) hI.1 (k _ hmt dep hdep p e R s m args below meth c H locs cells slots Q A ρ tys ls _ C hR hL (F2_mk ⟨_, rfl⟩ hS1) hu hv K)
theorem b_na {base M1 M2 : Nat} (hm : TB[mi]? = some (md, tl)) (hI : IOK WB AD SR FW TB md pc (.newarray .int, 0, y, z, fk)) (hL0 : LT[N0 + q]? = some (some (.inr (0, 3, base, 3, 3, 3)))) (hw1 : wrX M base 0 = M1) (hw2 : wrX M1 (base + 1) 0 = M2) (hw3 : wrX M2 (base + 2) 0 = M') (e : pc + 2 = pc') (k : SN l g D sl h u (q + 1) q' mi pc' als (.inr (.inr (.inl (N0 + q))) :: ast) M' P) : SN l g D sl h (u + 1) q q' mi pc als (.inl 3 :: ast) M P := by
  subst e
  intro mt hmt dep hdep p e R s m args below meth c H locs cells slots Q A ρ tys ls st C hR hL hS hu hv K
  cases hm.symm.trans hmt
  obtain ⟨hx, hb, hml, hts, hown, hin, hA, hAmb, hRR, hlt, hlk, htab, hret, hscr⟩ := id C
  obtain ⟨hK, ws, h0, h1, hP, hDD, hSS, h5⟩ := hR
  obtain ⟨v, vs, rfl, hr1, hS1⟩ := F2_cons hS
  rw [show v = .int (nI 3) from hr1]
  have hwd : Jvm.Cond.arrayClass (newarray.typeOf .int) ∈ WB := hI.2.1.2
  have hρl : ρ.length = N0 + q := by rw [h1, List.length_map]; exact h0
  refine va_newa (D := D) (atype := .int) (ty := .int) (a0 := (3, .inl (fun _ => 0))) hx hb (hts _ hwd) rfl hK hP hDD hSS hA (fun cA => rfl) (nI_pos (by omega)) (nI_clamp (by omega)) (by show 3 * 4 ≤ 536870912; omega) (by omega) (show slots + 3 ≤ R.slots by omega) hI.1 (fun b cA H1 hK1 hP1 hD1 hS2 => ?_)
  have hR' : HRN LT N0 D (q + 1) M' A s (ρ ++ [b]) (tys ++ [(cA, kty 0)]) H1 locs := by
    refine ⟨hK1, ws ++ [(b, .inl (cA, 3, .inl (fun _ => 0)))], by rw [List.length_append, h0]; rfl, by rw [h1]; simp, hP1, hD1, hS2, fun j w hw c hc => ?_⟩
    rw [List.getElem?_append] at hw
    split at hw
    · rename_i hj
      refine crepV_more (fun i a h => app_old i a h) (fun i a h => app_old i a h) (crepV_M (fun a ha => Or.inl ?_) (h5 j w hw c hc))
      have hne : ∀ i, i < 3 → a ≠ base + i := fun i hi ea => okL_sep LT_ok hc hL0 (show j < N0 + q by omega) ha (show base ≤ a ∧ a < base + (3 + (3 - 3)) by omega)
      rw [← hw3, ← hw2, ← hw1, wrX_ne _ _ (hne 2 (by omega)), wrX_ne _ _ (hne 1 (by omega)), wrX_ne _ _ (show a ≠ base from hne 0 (by omega))]
    · rename_i hj
      have hj2 : j - ws.length = 0 := by
        have := (List.getElem?_eq_some_iff.mp hw).1
        simp at this
        omega
      have hj3 : j = N0 + q := by omega
      subst hj3
      rw [hj2] at hw
      cases (show some (b, (Sum.inl (cA, 3, Sum.inl (fun _ => 0)) : va_E)) = some w from hw)
      cases (Option.some.inj (Option.some.inj (hL0.symm.trans hc)))
      refine ⟨cA, fun _ => 0, tys.length, app_new _ _, rfl, fun i a ha n hn => ?_⟩
      have e0 : rdX M' a = 1 := by
        have h3 : ∃ t, t < 3 ∧ a = base + t := by
          rcases aX_in ha with ⟨q1, q2, q3⟩ | ⟨q1, q2, q3⟩
          · exact ⟨i, q1, q3⟩
          · exact ⟨i, q2, by omega⟩
        obtain ⟨t, ht, rfl⟩ := h3
        match t, ht with
        | 0, _ => rw [← hw3, ← hw2, ← hw1, wrX_ne _ _ (by omega), wrX_ne _ _ (by omega), Nat.add_zero, wrX_same]
        | 1, _ => rw [← hw3, ← hw2, wrX_ne _ _ (by omega), wrX_same]
        | 2, _ => rw [← hw3, wrX_same]
      have hn0 : n = 0 := by omega
      rw [hn0]; rfl
  refine k _ hmt dep hdep p e R s m args below meth c H1 locs (cells + 1) (slots + 3) Q A (ρ ++ [b]) _ ls _ C hR' (LR_more (fun i a h => app_old i a h) hL) (F2_mk ⟨b, ?_, rfl⟩ (F2_more (fun i a h => app_old i a h) hS1)) (by omega) (by omega) (fun t2 M2' hp2 ρ2 tys2 H2 locs2 pc2 ls2 st2 k2 n2 hE2 hR2 hF2 hk2 hn2 => K t2 M2' hp2 ρ2 tys2 H2 locs2 pc2 ls2 st2 k2 n2 (fun i a hi ha => hE2 i a hi (app_old i a ha)) hR2 hF2 (by omega) (by omega))
  rw [← hρl]; exact app_new _ _
/-- a call that may make things -/
theorem b_sIu {idx np v M1 h' u1 u2 U : Nat} {mu : MT} {o : RN} (hm : TB[mi]? = some (md, tl)) (hI : IOK WB AD SR FW TB md pc (.invokestatic idx, x, y, z, fk)) (hmu : TB[x]? = some mu) (hM : MOK WB mu.1) (hx0 : x ≠ 0) (hnp : np = mN mu.1) (hca : calN 0 y np ast = true) (ho : o = some (v + 2, M1)) (hcal : ∀ r, o = some r → SN l g D sl h' u1 q q x 0 alsC [] M (PR r)) (hh : h' ≤ h) (ha : aargs 0 (ast.take np).reverse = alsC) (hr : ast.drop np = rest) (e : pc + 3 = pc') (hU : u1 + u2 ≤ U) (k : SN l g D sl (h + 1) u2 q q' mi pc' als (.inl v :: rest) M1 P) : SN l g D sl (h + 1) U q q' mi pc als ast M P := by
  subst e; subst ha; subst hr
  exact (p_st (u1 := u1) (u2 := u2) (P := P) (q' := q') (als := als) hm hI hmu hM hx0 hnp hca (Nat.le_refl q) ((hcal _ ho).hup hh) (fun t M' h9 => by cases h9; exact Nat.succ_ne_zero _) (fun t M' h9 => by cases h9; exact k)).uup hU
/-- a call told by what comes behind it -/
theorem b_sP {idx np h' u1 u2 U q1 : Nat} {mu : MT} {Pc : Nat → Nat → Prop} (hm : TB[mi]? = some (md, tl)) (hI : IOK WB AD SR FW TB md pc (.invokestatic idx, x, y, z, fk)) (hmu : TB[x]? = some mu) (hM : MOK WB mu.1) (hx0 : x ≠ 0) (hnp : np = mN mu.1) (hca : calN 0 y np ast = true) (hq1 : q ≤ q1) (hcal : SN l g D sl h' u1 q q1 x 0 alsC [] M Pc) (hh : h' ≤ h) (ha : aargs 0 (ast.take np).reverse = alsC) (hr : ast.drop np = rest) (hU : u1 + u2 ≤ U) (hne : ∀ t M', Pc t M' → t ≠ 0) (e : pc + 3 = pc') (k : ∀ t M', Pc t M' → SN l g D sl (h + 1) u2 q1 q' mi pc' als (rstN t rest) M' P) : SN l g D sl (h + 1) U q q' mi pc als ast M P := by
  subst e; subst ha; subst hr
  exact (p_st (u1 := u1) (u2 := u2) (P := P) (q' := q') (als := als) hm hI hmu hM hx0 hnp hca hq1 (hcal.hup hh) hne k).uup hU
end LR9
section LOWC
variable {l : Launch} {g : GV} {D : va_G} {sl q : Nat}
theorem snd_low {n : Nat} (hn : 0 < n) (hn2 : n < 2147483648) {M : Nat} : SN l g D sl 1 0 q q 90 0 [(0, UNK), (1, .inl n)] [] M (fun t M' => M' = M ∧ ∃ i, i < n ∧ t = i + 2) := by
  refine b_iln (pc' := 1) (a := UNK) tb_L_low r_L_low_0 rfl rfl rfl ?_
  refine b_ldc (pc' := 3) tb_L_low r_L_low_1 rfl ?_
  refine SN.unk1 (fun m => ?_)
  refine b_and (pc' := 4) tb_L_low r_L_low_3 rfl ?_
  refine b_iln (pc' := 5) (a := .inl n) tb_L_low r_L_low_4 rfl rfl rfl ?_
  have h1 : oAnd m 2147483647 ≤ 2147483647 := Nat.and_le_right
  refine b_rem (pc' := 6) (v := Nat.mod (oAnd m 2147483647) n) tb_L_low r_L_low_5 (Nat.ble_eq_true_of_le (by show oAnd m 2147483647 + 1 ≤ 2147483648; omega)) (Nat.ble_eq_true_of_le (by show n + 1 ≤ 2147483648; omega)) (Nat.ble_eq_true_of_le hn) rfl rfl ?_
  exact b_ri tb_L_low r_L_low_6 rfl ⟨rfl, _, Nat.mod_lt _ hn, rfl⟩
theorem snd_cell (hg : g.2.2 < 2147483648) {n : Nat} (hn2 : n < 2147483648) {M : Nat} : SN l g D sl 1 0 q q 89 0 [(0, SCR), (1, .inl n)] [] M (fun t M' => M' = M ∧ ∃ v, t = v + 2) := by
  refine b_iln (pc' := 1) (a := .inl n) tb_L_cell r_L_cell_0 rfl rfl rfl ?_
  refine b_aln (pc' := 2) (a := SCR) tb_L_cell r_L_cell_1 rfl rfl rfl ?_
  refine b_len0 (pc' := 3) tb_L_cell r_L_cell_2 rfl ?_
  cases hc : cN .ge n g.2.2 with
  | true =>
    refine b_icT (t := 12) tb_L_cell r_L_cell_3 rfl hc ?_
    refine b_ldc (pc' := 14) tb_L_cell r_L_cell_12 rfl ?_
    refine b_iln (pc' := 15) (a := .inl n) tb_L_cell r_L_cell_14 rfl rfl rfl ?_
    refine b_ic (pc' := 16) (1) tb_L_cell r_L_cell_15 rfl rfl ?_
    refine b_add (pc' := 17) tb_L_cell r_L_cell_16 rfl ?_
    refine b_mul (pc' := 18) tb_L_cell r_L_cell_17 rfl ?_
    refine b_ldc (pc' := 20) tb_L_cell r_L_cell_18 rfl ?_
    refine b_add (pc' := 21) tb_L_cell r_L_cell_20 rfl ?_
    exact b_ri tb_L_cell r_L_cell_21 rfl ⟨rfl, _, rfl⟩
  | false =>
    have hlt : n < g.2.2 := by
      apply Nat.lt_of_not_le
      intro h9
      have : cN .ge n g.2.2 = true := Nat.ble_eq_true_of_le (show (g.2.2 + 2147483648) % 4294967296 ≤ (n + 2147483648) % 4294967296 by omega)
      rw [this] at hc; cases hc
    refine b_icF (t := 12) (pc' := 6) tb_L_cell r_L_cell_3 rfl hc rfl ?_
    refine b_aln (pc' := 7) (a := SCR) tb_L_cell r_L_cell_6 rfl rfl rfl ?_
    refine b_iln (pc' := 8) (a := .inl n) tb_L_cell r_L_cell_7 rfl rfl rfl ?_
    refine b_sld (pc' := 9) tb_L_cell r_L_cell_8 hg hlt rfl ?_
    refine b_goto (pc' := 21) tb_L_cell r_L_cell_9 rfl ?_
    refine unkT (fun v => ?_)
    exact b_ri tb_L_cell r_L_cell_21 rfl ⟨rfl, _, rfl⟩
/-- a throw of code that is caught -/
noncomputable def m_L_refused (a M : Nat) : RN := cK (m_X10_code a M) (fun t M1 => @Nat.rec (fun _ => RN) (rK M1 AX (fun ec => @Nat.rec (fun _ => RN) (some (5, M1)) (fun e _ => @Nat.rec (fun _ => RN) (some (3, M1)) (fun _ _ => none) e) ec)) (fun _ _ => none) t)
theorem refused_in {a M : Nat} {r : Nat × Nat} (h : m_L_refused a M = some r) : ∃ M1, m_X10_code a M = some (0, M1) ∧ ((rdX M1 AX = 1 ∧ r = (5, M1)) ∨ (rdX M1 AX = 2 ∧ r = (3, M1))) := by
  unfold m_L_refused at h
  match e : m_X10_code a M, h with
  | some (0, M1), h =>
    refine ⟨M1, rfl, ?_⟩
    obtain ⟨ec, h1, h2⟩ := rK_in (show rK M1 AX _ = some r from h)
    match ec, h1, h2 with
    | 0, h1, h2 => exact Or.inl ⟨h1, (sj h2).symm⟩
    | 1, h1, h2 => exact Or.inr ⟨h1, (sj h2).symm⟩
    | n + 2, h1, h2 => cases h2
  | some (n + 1, M1), h => cases h
theorem snd_L_refused {a M0 : Nat} {r : Nat × Nat} (h : m_L_refused a M0 = some r) : SN l g D sl 10 1 q q 93 0 [(0, .inr (.inr (.inl 0))), (1, .inl a)] [] M0 (PR r) := by
  obtain ⟨M1, h1, h2⟩ := refused_in h
  have hc := snd_X10_code (l := l) (g := g) (D := D) (sl := sl) (q := q) (u := 1) (fun _ => Nat.le_refl _) h1
  refine b_aln (pc' := 1) (a := .inr (.inr (.inl 0))) tb_L_refused r_L_refused_0 rfl rfl rfl ?_
  refine b_iln (pc' := 2) (a := .inl a) tb_L_refused r_L_refused_1 rfl rfl rfl ?_
  rcases h2 with ⟨h2, rfl⟩ | ⟨h2, rfl⟩
  · refine p_vx (u1 := 1) (u2 := 0) (np := 2) (hp := 11) (ec := 0) (q1 := q) tb_L_refused r_L_refused_2 tb_X10_code mo_X10_code ho_L_refused (by decide) (by decide) (by decide) rfl rfl (Nat.le_refl q) (hc.hup (by decide)) (fun t M' e => by cases e; exact ⟨rfl, h2⟩) rfl AC_ok (fun M' e => ?_)
    cases e
    refine b_asn (pc' := 12) [(2, .inr (.inr (.inr (.inr 0)))), (0, .inr (.inr (.inl 0))), (1, .inl a)] tb_L_refused r_L_refused_11 rfl rfl rfl rfl ?_
    refine b_ic (pc' := 13) (3) tb_L_refused r_L_refused_12 rfl rfl ?_
    exact b_ri tb_L_refused r_L_refused_13 rfl rfl
  · refine p_vx (u1 := 1) (u2 := 0) (np := 2) (hp := 8) (ec := 1) (q1 := q) tb_L_refused r_L_refused_2 tb_X10_code mo_X10_code ho_L_refused (by decide) (by decide) (by decide) rfl rfl (Nat.le_refl q) (hc.hup (by decide)) (fun t M' e => by cases e; exact ⟨rfl, h2⟩) rfl AC_ok (fun M' e => ?_)
    cases e
    refine b_asn (pc' := 9) [(2, .inr (.inr (.inr (.inr 0)))), (0, .inr (.inr (.inl 0))), (1, .inl a)] tb_L_refused r_L_refused_8 rfl rfl rfl rfl ?_
    refine b_ic (pc' := 10) (1) tb_L_refused r_L_refused_9 rfl rfl ?_
    exact b_ri tb_L_refused r_L_refused_10 rfl rfl
end LOWC
/-! trees that say true or false -/
noncomputable def fKB (e : Nat) (k : Nat → Bool) : Bool := @Nat.rec (fun _ => Bool) false (fun n _ => k n) (Nat.add e 1)
noncomputable def rKB (M a : Nat) (k : Nat → Bool) : Bool := @Nat.rec (fun _ => Bool) false (fun n _ => k n) (rdX M a)
noncomputable def bKB (c t f : Bool) : Bool := @Bool.rec (fun _ => Bool) f t c
noncomputable def cKB (o : RN) (k : Nat → Nat → Bool) : Bool := @Option.rec (Nat × Nat) (fun _ => Bool) false (fun p => @Prod.rec Nat Nat (fun _ => Bool) k p) o
noncomputable def cIB (o : RN) (k : Nat → Nat → Bool) : Bool := cKB o (fun t M => @Nat.rec (fun _ => Bool) false (fun t' _ => @Nat.rec (fun _ => Bool) false (fun v _ => k v M) t') t)
noncomputable def cVB (o : RN) (k : Nat → Bool) : Bool := cKB o (fun t M => @Nat.rec (fun _ => Bool) false (fun t' _ => @Nat.rec (fun _ => Bool) (k M) (fun _ _ => false) t') t)
noncomputable def lKB (M base w n : Nat) (k : Nat → Bool) : Bool := bKB (Nat.ble (Nat.add n 1) w) (rKB M (Nat.add base n) k) false
noncomputable def sKB (M base w n v : Nat) (k : Nat → Bool) : Bool := bKB (Nat.ble (Nat.add n 1) w) (fKB (wrX M (Nat.add base n) v) k) false
noncomputable def dvKB (f : Nat → Nat → Nat) (a b : Nat) (k : Nat → Bool) : Bool := bKB (Nat.ble (Nat.add a 1) 2147483648) (bKB (Nat.ble (Nat.add b 1) 2147483648) (bKB (Nat.ble 1 b) (fKB (f a b) k) false) false) false
def jnB {α : Type} (jb : α) (mb : α → Bool) : Bool := mb jb
noncomputable def lpB {α : Type} (bot : α) (st : α → α) (mb : α → Bool) : Bool := mb (@Nat.rec (fun _ => α) bot (fun _ ih => st ih) 1000)
noncomputable def dB (n : Nat) (k : Nat → Bool) : Bool := @Nat.rec (fun _ => Bool) true (fun i ih => @Bool.rec (fun _ => Bool) false ih (k i)) n
noncomputable def ctB (M K : Nat) (k : Nat → Bool) : Bool := @Nat.rec (fun _ => Bool) false (fun n _ => @Bool.rec (fun _ => Bool) false true (k n)) (Nat.add (Nat.land M K) 1)
noncomputable def naB (M base : Nat) (k : Nat → Bool) : Bool := fKB (wrX M base 0) (fun M1 => fKB (wrX M1 (Nat.add base 1) 0) (fun M2 => fKB (wrX M2 (Nat.add base 2) 0) k))
theorem fK_vB {e : Nat} {k : Nat → Bool} (h : fKB e k = true) : ∃ v, e = v ∧ k v = true := ⟨e, rfl, h⟩
theorem rK_inB {M a : Nat} {k : Nat → Bool} (h : rKB M a k = true) : ∃ n, rdX M a = n + 1 ∧ k n = true := by
  unfold rKB at h
  cases e : rdX M a with
  | zero => rw [e] at h; cases h
  | succ n => rw [e] at h; exact ⟨n, rfl, h⟩
theorem bK_inB {c t f : Bool} (h : bKB c t f = true) : (c = true ∧ t = true) ∨ (c = false ∧ f = true) := by
  cases c with
  | true => exact Or.inl ⟨rfl, h⟩
  | false => exact Or.inr ⟨rfl, h⟩
theorem bK_tB {c t : Bool} (h : bKB c t false = true) : c = true ∧ t = true := by
  cases c with
  | true => exact ⟨rfl, h⟩
  | false => cases h
theorem bK_fB {c f : Bool} (h : bKB c false f = true) : c = false ∧ f = true := by
  cases c with
  | true => cases h
  | false => exact ⟨rfl, h⟩
theorem cI_inB {o : RN} {k : Nat → Nat → Bool} (h : cIB o k = true) : ∃ v M, o = some (v + 2, M) ∧ k v M = true := by
  match o, h with
  | some (0, M), h => cases h
  | some (1, M), h => cases h
  | some (v + 2, M), h => exact ⟨v, M, rfl, h⟩
theorem cV_inB {o : RN} {k : Nat → Bool} (h : cVB o k = true) : ∃ M, o = some (1, M) ∧ k M = true := by
  match o, h with
  | some (0, M), h => cases h
  | some (1, M), h => exact ⟨M, rfl, h⟩
  | some (v + 2, M), h => cases h
theorem lK_inB {M base w n : Nat} {k : Nat → Bool} (h : lKB M base w n k = true) : ∃ v, Nat.ble (Nat.add n 1) w = true ∧ rdX M (Nat.add base n) = v + 1 ∧ k v = true := by
  obtain ⟨h1, h2⟩ := bK_tB h
  obtain ⟨v, h3, h4⟩ := rK_inB h2
  exact ⟨v, h1, h3, h4⟩
theorem sK_inB {M base w n v : Nat} {k : Nat → Bool} (h : sKB M base w n v k = true) : ∃ M', Nat.ble (Nat.add n 1) w = true ∧ wrX M (Nat.add base n) v = M' ∧ k M' = true := by
  obtain ⟨h1, h2⟩ := bK_tB h
  exact ⟨_, h1, rfl, h2⟩
theorem dvK_inB {f : Nat → Nat → Nat} {a b : Nat} {k : Nat → Bool} (h : dvKB f a b k = true) : ∃ v, Nat.ble (Nat.add a 1) 2147483648 = true ∧ Nat.ble (Nat.add b 1) 2147483648 = true ∧ Nat.ble 1 b = true ∧ f a b = v ∧ k v = true := by
  obtain ⟨h1, h2⟩ := bK_tB h
  obtain ⟨h3, h4⟩ := bK_tB h2
  obtain ⟨h5, h6⟩ := bK_tB h4
  exact ⟨_, h1, h3, h5, rfl, h6⟩
theorem jn_inB {α : Type} {jb : α} {mb : α → Bool} (R : α → Prop) {G : Prop} (h : jnB jb mb = true) (h1 : R jb) (h2 : ∀ j, R j → mb j = true → G) : G := h2 jb h1 h
theorem lp_inB {α : Type} {bot : α} {st : α → α} {mb : α → Bool} (R : α → Prop) {G : Prop} (h : lpB bot st mb = true) (h0 : R bot) (h1 : ∀ ih, R ih → R (st ih)) (h2 : ∀ j, R j → mb j = true → G) : G := by
  refine h2 _ ?_ h
  have key : ∀ n : Nat, R (@Nat.rec (fun _ => α) bot (fun _ ih => st ih) n) := by
    intro n
    induction n with
    | zero => exact h0
    | succ n ih => exact h1 _ ih
  exact key 1000
theorem dB_in {n : Nat} {k : Nat → Bool} (h : dB n k = true) : ∀ i, i < n → k i = true := by
  induction n with
  | zero => intro i hi; cases hi
  | succ n ih =>
    have h : @Bool.rec (fun _ => Bool) false (dB n k) (k n) = true := h
    cases e : k n with
    | false => rw [e] at h; cases h
    | true =>
      rw [e] at h
      intro i hi
      rcases Nat.lt_or_ge i n with h9 | h9
      · exact ih h i h9
      · have : i = n := by omega
        rw [this]; exact e
theorem ct_in {M K : Nat} {k : Nat → Bool} (h : ctB M K k = true) : ∃ M', Nat.land M K = M' ∧ k M' = true := by
  refine ⟨_, rfl, ?_⟩
  have h : @Bool.rec (fun _ => Bool) false true (k (Nat.land M K)) = true := h
  cases e : k (Nat.land M K) with
  | false => rw [e] at h; cases h
  | true => rfl
theorem na_in {M base : Nat} {k : Nat → Bool} (h : naB M base k = true) : ∃ M1 M2 M', wrX M base 0 = M1 ∧ wrX M1 (Nat.add base 1) 0 = M2 ∧ wrX M2 (Nat.add base 2) 0 = M' ∧ k M' = true := ⟨_, _, _, rfl, rfl, rfl, h⟩
/-! cuts: a part of what is known -/
noncomputable def okm (K : Nat) (n : Nat) : Bool := @Nat.rec (fun _ => Bool) true (fun i ih => @Bool.rec (fun _ => Bool) (@Bool.rec (fun _ => Bool) false ih (Nat.beq (rdX K i) 0)) ih (Nat.beq (rdX K i) 8589934591)) n
def mok (K : Nat) : Prop := ∀ a, rdX K a = 8589934591 ∨ rdX K a = 0
theorem okm_in {K n : Nat} (h : okm K n = true) : ∀ a, a < n → rdX K a = 8589934591 ∨ rdX K a = 0 := by
  induction n with
  | zero => intro i hi; cases hi
  | succ n ih =>
    have h : @Bool.rec (fun _ => Bool) (@Bool.rec (fun _ => Bool) false (okm K n) (Nat.beq (rdX K n) 0)) (okm K n) (Nat.beq (rdX K n) 8589934591) = true := h
    have key : (rdX K n = 8589934591 ∨ rdX K n = 0) ∧ okm K n = true := by
      cases e : Nat.beq (rdX K n) 8589934591 with
      | true => rw [e] at h; exact ⟨Or.inl (Nat.eq_of_beq_eq_true e), h⟩
      | false =>
        rw [e] at h
        cases e2 : Nat.beq (rdX K n) 0 with
        | true => rw [e2] at h; exact ⟨Or.inr (Nat.eq_of_beq_eq_true e2), h⟩
        | false => rw [e2] at h; cases h
    intro a ha
    rcases Nat.lt_or_ge a n with h9 | h9
    · exact ih key.2 a h9
    · have : a = n := by omega
      rw [this]; exact key.1
theorem mok_of {K : Nat} (n : Nat) (h1 : okm K n = true) (h2 : Nat.beq (Nat.shiftRight K (Nat.add (Nat.mul 33 n) 64)) 0 = true) : mok K := by
  intro a
  rcases Nat.lt_or_ge a n with h9 | h9
  · exact okm_in h1 a h9
  · refine Or.inr ?_
    have e : K >>> (33 * n + 64) = 0 := Nat.eq_of_beq_eq_true h2
    rw [rdX_def, show 33 * a + 64 = (33 * n + 64) + (33 * a - 33 * n) by omega, Nat.shiftRight_add, e]
    simp
theorem b_ct {l : Launch} {g : GV} {D : va_G} {sl h u q q' mi pc : Nat} {als : Als} {ast : List AV} {M K M' : Nat} {P : Nat → Nat → Prop} (hK : mok K) (e : Nat.land M K = M') (k : SN l g D sl h u q q' mi pc als ast M' P) : SN l g D sl h u q q' mi pc als ast M P := by
  subst e
  refine SN.less (fun j c hc a ha => ?_) k
  rcases hK a with h | h
  · exact Or.inl (and_rdX M K a h)
  · exact Or.inr (and_rdX0 M K a h)
theorem r_L_things_70 : IOK WB AD SR FW TB md_L_things 70 (.iload 7, 0, 0, 0, []) := io_plain (by decide +kernel) rfl
theorem r_L_things_72 : IOK WB AD SR FW TB md_L_things 72 (.iconst 1, 0, 0, 0, []) := io_plain (by decide +kernel) rfl
theorem r_L_things_73 : IOK WB AD SR FW TB md_L_things 73 (.iadd, 0, 0, 0, []) := io_plain (by decide +kernel) rfl
theorem r_L_things_74 : IOK WB AD SR FW TB md_L_things 74 (.iconst 3, 0, 0, 0, []) := io_plain (by decide +kernel) rfl
theorem r_L_things_75 : IOK WB AD SR FW TB md_L_things 75 (.irem, 0, 0, 0, []) := io_plain (by decide +kernel) rfl
theorem r_L_things_76 : IOK WB AD SR FW TB md_L_things 76 (.istore 7, 0, 0, 0, []) := io_plain (by decide +kernel) rfl
theorem r_L_things_78 : IOK WB AD SR FW TB md_L_things 78 (.goto (-16), 0, 0, 0, []) := io_plain (by decide +kernel) rfl
/-! what is left of the calls of the law -/
abbrev PV (K : Nat → Bool) : Nat → Nat → Prop := fun t M' => t = 1 ∧ K M' = true
abbrev PT (K : Nat → Bool) : Nat → Nat → Prop := fun t M' => t = 3 ∧ K M' = true
section LR8
variable {l : Launch} {g : GV} {D : va_G} {sl h u q q' mi pc pc' : Nat} {md : MD} {tl : List (Nat × IE)} {x y z : Nat} {fk : List Nat} {als alsC : Als} {ast rest : List AV} {M : Nat} {P : Nat → Nat → Prop}
theorem b_low {idx : Nat} (n : Nat) (hn : 0 < n) (hn2 : n < 2147483648) (hm : TB[mi]? = some (md, tl)) (hI : IOK WB AD SR FW TB md pc (.invokestatic idx, 90, y, z, fk)) (hc : calN 0 y 2 (.inl n :: UNK :: rest) = true) (hh : 1 ≤ h) (e : pc + 3 = pc') (k : ∀ i, i < n → SN l g D sl (h + 1) u q q' mi pc' als (.inl i :: rest) M P) : SN l g D sl (h + 1) u q q' mi pc als (.inl n :: UNK :: rest) M P :=
  b_sP (u1 := 0) (u2 := u) (q1 := q) (np := 2) hm hI tb_L_low mo_L_low (by decide) rfl hc (Nat.le_refl q) (snd_low hn hn2) hh rfl rfl (by omega) (fun t M' h9 => by obtain ⟨-, i, -, rfl⟩ := h9; exact Nat.succ_ne_zero _) e (fun t M' h9 => by obtain ⟨rfl, i, hi, rfl⟩ := h9; exact k i hi)
theorem b_cell {idx n : Nat} (hg : g.2.2 < 2147483648) (hn2 : n < 2147483648) (hm : TB[mi]? = some (md, tl)) (hI : IOK WB AD SR FW TB md pc (.invokestatic idx, 89, y, z, fk)) (hc : calN 0 y 2 (.inl n :: SCR :: rest) = true) (hh : 1 ≤ h) (e : pc + 3 = pc') (k : SN l g D sl (h + 1) u q q' mi pc' als (UNK :: rest) M P) : SN l g D sl (h + 1) u q q' mi pc als (.inl n :: SCR :: rest) M P :=
  b_sP (u1 := 0) (u2 := u) (q1 := q) (np := 2) hm hI tb_L_cell mo_L_cell (by decide) rfl hc (Nat.le_refl q) (snd_cell hg hn2) hh rfl rfl (by omega) (fun t M' h9 => by obtain ⟨-, i, rfl⟩ := h9; exact Nat.succ_ne_zero _) e (fun t M' h9 => by obtain ⟨rfl, i, rfl⟩ := h9; exact toUnk k)
theorem b_sVK {idx np h' u1 u2 U q1 : Nat} {mu : MT} {K : Nat → Bool} (hm : TB[mi]? = some (md, tl)) (hI : IOK WB AD SR FW TB md pc (.invokestatic idx, x, y, z, fk)) (hmu : TB[x]? = some mu) (hM : MOK WB mu.1) (hx0 : x ≠ 0) (hnp : np = mN mu.1) (hca : calN 0 y np ast = true) (hq1 : q ≤ q1) (hcal : SN l g D sl h' u1 q q1 x 0 alsC [] M (PV K)) (hh : h' ≤ h) (ha : aargs 0 (ast.take np).reverse = alsC) (hr : ast.drop np = rest) (hU : u1 + u2 ≤ U) (e : pc + 3 = pc') (k : ∀ M', K M' = true → SN l g D sl (h + 1) u2 q1 q' mi pc' als rest M' P) : SN l g D sl (h + 1) U q q' mi pc als ast M P :=
  b_sP hm hI hmu hM hx0 hnp hca hq1 hcal hh ha hr hU (fun t M' h9 => by obtain ⟨rfl, -⟩ := h9; decide) e (fun t M' h9 => by obtain ⟨rfl, h8⟩ := h9; exact k M' h8)
theorem b_sTK {idx np h' u1 u2 U q1 : Nat} {mu : MT} {K : Nat → Bool} (hm : TB[mi]? = some (md, tl)) (hI : IOK WB AD SR FW TB md pc (.invokestatic idx, x, y, z, fk)) (hmu : TB[x]? = some mu) (hM : MOK WB mu.1) (hx0 : x ≠ 0) (hnp : np = mN mu.1) (hca : calN 0 y np ast = true) (hq1 : q ≤ q1) (hcal : SN l g D sl h' u1 q q1 x 0 alsC [] M (PT K)) (hh : h' ≤ h) (ha : aargs 0 (ast.take np).reverse = alsC) (hr : ast.drop np = rest) (hU : u1 + u2 ≤ U) (e : pc + 3 = pc') (k : ∀ M', K M' = true → SN l g D sl (h + 1) u2 q1 q' mi pc' als (.inl 1 :: rest) M' P) : SN l g D sl (h + 1) U q q' mi pc als ast M P :=
  b_sP hm hI hmu hM hx0 hnp hca hq1 hcal hh ha hr hU (fun t M' h9 => by obtain ⟨rfl, -⟩ := h9; decide) e (fun t M' h9 => by obtain ⟨rfl, h8⟩ := h9; exact k M' h8)
end LR8
