/-! each step over one number is sound -/
theorem off_inl (n : Nat) : ivl [] (.inl n) = some ((n + 2147483648) % 4294967296, (n + 2147483648) % 4294967296) := rfl
theorem icmp_n (c : Jvm.ClassFile.Cond) (x y : Nat) : icmp c (x, x) (y, y) = some (match c with
    | .eq => Nat.beq x y
    | .ne => !(Nat.beq x y)
    | .lt => Nat.ble (x + 1) y
    | .ge => Nat.ble y x
    | .gt => Nat.ble (y + 1) x
    | .le => Nat.ble x y) := by
  have lt : ∀ x y : Nat, ilt (x, x) (y, y) = some (Nat.ble (x + 1) y) := by
    intro x y
    show (if x < y then some true else if y ≤ x then some false else none) = some (Nat.ble (x + 1) y)
    by_cases h : x < y
    · rw [if_pos h, Nat.ble_eq_true_of_le (show x + 1 ≤ y from h)]
    · rw [if_neg h, if_pos (by omega)]
      cases e : Nat.ble (x + 1) y with
      | false => rfl
      | true => have := Nat.le_of_ble_eq_true e; omega
  have nb : ∀ x y : Nat, (!(Nat.ble (x + 1) y)) = Nat.ble y x := by
    intro x y
    cases e : Nat.ble (x + 1) y with
    | true =>
      have := Nat.le_of_ble_eq_true e
      cases e2 : Nat.ble y x with
      | true => have := Nat.le_of_ble_eq_true e2; omega
      | false => rfl
    | false =>
      cases e2 : Nat.ble y x with
      | true => rfl
      | false =>
        have h1 : ¬ x + 1 ≤ y := fun h => by rw [Nat.ble_eq_true_of_le h] at e; cases e
        have h2 : ¬ y ≤ x := fun h => by rw [Nat.ble_eq_true_of_le h] at e2; cases e2
        omega
  have eq : ∀ x y : Nat, ieq (x, x) (y, y) = some (Nat.beq x y) := by
    intro x y
    show (if x < y then some false else if y < x then some false else if x = x then (if y = y then (if x = y then some true else none) else none) else none) = some (Nat.beq x y)
    cases e : Nat.beq x y with
    | true =>
      have e := Nat.eq_of_beq_eq_true e
      rw [if_neg (by omega), if_neg (by omega), if_pos rfl, if_pos rfl, if_pos e]
    | false =>
      have e : x ≠ y := fun h => by rw [h, Nat.beq_refl] at e; cases e
      by_cases h : x < y
      · rw [if_pos h]
      · rw [if_neg h, if_pos (by omega)]
  cases c with
  | eq => exact eq x y
  | ne =>
    show (ieq (x, x) (y, y)).map (fun b => !b) = _
    rw [eq]; rfl
  | lt => exact lt x y
  | ge =>
    show (ilt (x, x) (y, y)).map (fun b => !b) = _
    rw [lt]
    exact congrArg some (nb _ _)
  | gt => exact lt y x
  | le =>
    show (ilt (y, y) (x, x)).map (fun b => !b) = _
    rw [lt]
    exact congrArg some (nb _ _)
theorem beq_iff {x y x' y' : Nat} (h : x = y ↔ x' = y') : Nat.beq x y = Nat.beq x' y' := by
  cases e : Nat.beq x y with
  | true =>
    have e := h.mp (Nat.eq_of_beq_eq_true e)
    rw [e, Nat.beq_refl]
  | false =>
    cases e2 : Nat.beq x' y' with
    | false => rfl
    | true =>
      have e2 := h.mpr (Nat.eq_of_beq_eq_true e2)
      rw [e2, Nat.beq_refl] at e
      cases e
theorem ble_iff {x y x' y' : Nat} (h : x ≤ y ↔ x' ≤ y') : Nat.ble x y = Nat.ble x' y' := by
  cases e : Nat.ble x y with
  | true => exact (Nat.ble_eq_true_of_le (h.mp (Nat.le_of_ble_eq_true e))).symm
  | false =>
    cases e2 : Nat.ble x' y' with
    | false => rfl
    | true => rw [Nat.ble_eq_true_of_le (h.mpr (Nat.le_of_ble_eq_true e2))] at e; cases e
theorem off_beq (a b : Nat) : Nat.beq (Nat.mod (Nat.add a 2147483648) 4294967296) (Nat.mod (Nat.add b 2147483648) 4294967296) = Nat.beq (Nat.mod a 4294967296) (Nat.mod b 4294967296) :=
  beq_iff (show (a + 2147483648) % 4294967296 = (b + 2147483648) % 4294967296 ↔ a % 4294967296 = b % 4294967296 by omega)
theorem cmp2_cN (c : Jvm.ClassFile.Cond) (a b : Nat) : cmp2 [] c (.inl a) (.inl b) = some (cN c a b) := by
  refine (icmp_n c (Nat.mod (Nat.add a 2147483648) 4294967296) (Nat.mod (Nat.add b 2147483648) 4294967296)).trans ?_
  cases c with
  | eq => exact congrArg some (off_beq a b)
  | ne => exact congrArg (fun z => some (!z)) (off_beq a b)
  | lt => exact rfl
  | ge => exact rfl
  | gt => exact rfl
  | le => exact rfl
theorem cN_cZ (c : Jvm.ClassFile.Cond) (a : Nat) : cN c a 0 = cZ c a := by
  cases c with
  | eq => rfl
  | ne => rfl
  | lt => exact ble_iff (show (a + 2147483648) % 4294967296 + 1 ≤ (0 + 2147483648) % 4294967296 ↔ 2147483648 ≤ a % 4294967296 by omega)
  | ge => exact ble_iff (show (0 + 2147483648) % 4294967296 ≤ (a + 2147483648) % 4294967296 ↔ a % 4294967296 + 1 ≤ 2147483648 by omega)
  | gt => exact ble_iff (show (0 + 2147483648) % 4294967296 + 1 ≤ (a + 2147483648) % 4294967296 ↔ 2147483649 ≤ (a + 2147483648) % 4294967296 by omega)
  | le => exact ble_iff (show (a + 2147483648) % 4294967296 ≤ (0 + 2147483648) % 4294967296 ↔ (a + 2147483648) % 4294967296 ≤ 2147483648 by omega)
theorem cmp2_cZ (c : Jvm.ClassFile.Cond) (a : Nat) : cmp2 [] c (.inl a) (.inl 0) = some (cZ c a) := (cmp2_cN c a 0).trans (congrArg some (cN_cZ c a))
section KP
variable {l : Launch} {g : GV} {D : va_G} {sl h u q q' mi pc : Nat} {Pf : Nat × Nat → Nat → Nat → Prop} {md : MD} {tl : List (Nat × IE)} {x y z : Nat} {fk : List Nat}
theorem kp {F : StepN} {ins : Instr} (hm : TB[mi]? = some (md, tl)) (hd : decode (mC md) pc = .ok (ins, ilen ins)) (hF : ∀ (cc : CCN) (rc : KN) (als : Als) (ast : List AV) (M : Nat) (r : Nat × Nat), F cc rc pc als ast M = some r → ∃ q3 : Nat × Als × List AV, ps1 [] 64 (mL md) ins pc als ast = some q3 ∧ rc q3.1 q3.2.1 q3.2.2 M = some r) : SOKN l g D sl h u q q' mi Pf pc F := by
  intro cc rc hc hr als ast M r hh mt hmt dep hdep p e R s m args below meth c H locs cells slots Q A ρ tys ls st C hR hL hS hu hv K
  cases hm.symm.trans hmt
  obtain ⟨q3, h1, h2⟩ := hF cc rc als ast M r hh
  obtain ⟨hx, hb, hml, hts, hown, hin, hA, hAmb, hRR, hlt, hlk, htab, hret, hscr⟩ := id C
  exact ps1_ok (bnd := []) (msk := 64) hx hb (fun k q h => by cases h) (fun h => absurd h (by decide)) hL hS ins hd h1 (fun ls' st' hL' hS' => hr _ _ _ _ _ h2 _ hmt dep hdep p e R s m args below meth c H locs cells slots Q A ρ tys ls' st' C hR hL' hS' hu hv K)
theorem k_iconst {n : Nat} {i : Int} (hm : TB[mi]? = some (md, tl)) (hI : IOK WB AD SR FW TB md pc (.iconst i, x, y, z, fk)) (hn : i2n i = n) : SOKN l g D sl h u q q' mi Pf pc (nC n 1) :=
  kp hm hI.1 (fun cc rc als ast M r hh => ⟨_, rfl, by rw [hn]; exact hh⟩)
theorem k_bipush {n : Nat} {i : Int} (hm : TB[mi]? = some (md, tl)) (hI : IOK WB AD SR FW TB md pc (.bipush i, x, y, z, fk)) (hq : (decide (-128 ≤ i) && (decide (i < 128) && Nat.beq (i2n i) n)) = true) : SOKN l g D sl h u q q' mi Pf pc (nC n 2) := by
  have h1 := and_cases hq
  have h2 := and_cases h1.2
  have e := Nat.eq_of_beq_eq_true h2.2
  subst e
  refine kp hm hI.1 (fun cc rc als ast M r hh => ⟨(pc + 2, als, .inl (i2n i) :: ast), ?_, hh⟩)
  show (if -128 ≤ i then (if i < 128 then some (pc + 2, als, (.inl (i2n i) : AV) :: ast) else none) else none) = _
  rw [if_pos (of_decide_eq_true h1.1), if_pos (of_decide_eq_true h2.1)]
theorem k_sipush {n : Nat} {i : Int} (hm : TB[mi]? = some (md, tl)) (hI : IOK WB AD SR FW TB md pc (.sipush i, x, y, z, fk)) (hq : (decide (-32768 ≤ i) && (decide (i < 32768) && Nat.beq (i2n i) n)) = true) : SOKN l g D sl h u q q' mi Pf pc (nC n 3) := by
  have h1 := and_cases hq
  have h2 := and_cases h1.2
  have e := Nat.eq_of_beq_eq_true h2.2
  subst e
  refine kp hm hI.1 (fun cc rc als ast M r hh => ⟨(pc + 3, als, .inl (i2n i) :: ast), ?_, hh⟩)
  show (if -32768 ≤ i then (if i < 32768 then some (pc + 3, als, (.inl (i2n i) : AV) :: ast) else none) else none) = _
  rw [if_pos (of_decide_eq_true h1.1), if_pos (of_decide_eq_true h2.1)]
theorem nLd_in {i len : Nat} {ok : AV → Bool} {cc : CCN} {rc : KN} {als : Als} {ast : List AV} {M : Nat} {r : Nat × Nat} (hh : nLd i len ok cc rc pc als ast M = some r) : ∃ q3 : Nat × Als × List AV, pld als i (pc + len) ast ok = some q3 ∧ rc q3.1 q3.2.1 q3.2.2 M = some r := by
  unfold nLd at hh
  unfold pld
  cases e : llk als i with
  | none => rw [e] at hh; cases hh
  | some a =>
    rw [e] at hh
    cases e2 : ok a with
    | false => simp only [e2] at hh; cases hh
    | true => simp only [e2] at hh ⊢; exact ⟨_, rfl, hh⟩
theorem nSt_in {nL i len : Nat} {ok : AV → Bool} {cc : CCN} {rc : KN} {als : Als} {ast : List AV} {M : Nat} {r : Nat × Nat} (hh : nSt nL i len ok cc rc pc als ast M = some r) : ∃ q3 : Nat × Als × List AV, pst nL als i (pc + len) ast ok = some q3 ∧ rc q3.1 q3.2.1 q3.2.2 M = some r := by
  unfold nSt at hh
  unfold pst
  cases ast with
  | nil => cases hh
  | cons a rest =>
    cases e2 : ok a with
    | false => simp only [e2] at hh; cases hh
    | true =>
      simp only [e2] at hh ⊢
      cases e3 : Nat.blt i nL with
      | false => rw [e3] at hh; cases hh
      | true => rw [e3] at hh; rw [if_pos (show i < nL from Nat.le_of_ble_eq_true e3)]; exact ⟨_, rfl, hh⟩
theorem k_iload {i : Nat} (hm : TB[mi]? = some (md, tl)) (hI : IOK WB AD SR FW TB md pc (.iload i, x, y, z, fk)) : SOKN l g D sl h u q q' mi Pf pc (nLd i 2 isI) := kp hm hI.1 (fun _ _ _ _ _ _ hh => nLd_in hh)
theorem k_iload_n {k : Fin 4} {i : Nat} (hm : TB[mi]? = some (md, tl)) (hI : IOK WB AD SR FW TB md pc (.iload_n k, x, y, z, fk)) (hk : k.val = i) : SOKN l g D sl h u q q' mi Pf pc (nLd i 1 isI) := by subst hk; exact kp hm hI.1 (fun _ _ _ _ _ _ hh => nLd_in hh)
theorem k_aload {i : Nat} (hm : TB[mi]? = some (md, tl)) (hI : IOK WB AD SR FW TB md pc (.aload i, x, y, z, fk)) : SOKN l g D sl h u q q' mi Pf pc (nLd i 2 isRN) := kp hm hI.1 (fun _ _ _ _ _ _ hh => nLd_in hh)
theorem k_aload_n {k : Fin 4} {i : Nat} (hm : TB[mi]? = some (md, tl)) (hI : IOK WB AD SR FW TB md pc (.aload_n k, x, y, z, fk)) (hk : k.val = i) : SOKN l g D sl h u q q' mi Pf pc (nLd i 1 isRN) := by subst hk; exact kp hm hI.1 (fun _ _ _ _ _ _ hh => nLd_in hh)
theorem k_istore {i nL : Nat} (hm : TB[mi]? = some (md, tl)) (hI : IOK WB AD SR FW TB md pc (.istore i, x, y, z, fk)) (hn : mL md = nL) : SOKN l g D sl h u q q' mi Pf pc (nSt nL i 2 isI) := by subst hn; exact kp hm hI.1 (fun _ _ _ _ _ _ hh => nSt_in hh)
theorem k_istore_n {k : Fin 4} {i nL : Nat} (hm : TB[mi]? = some (md, tl)) (hI : IOK WB AD SR FW TB md pc (.istore_n k, x, y, z, fk)) (hk : k.val = i) (hn : mL md = nL) : SOKN l g D sl h u q q' mi Pf pc (nSt nL i 1 isI) := by subst hk; subst hn; exact kp hm hI.1 (fun _ _ _ _ _ _ hh => nSt_in hh)
theorem k_astore {i nL : Nat} (hm : TB[mi]? = some (md, tl)) (hI : IOK WB AD SR FW TB md pc (.astore i, x, y, z, fk)) (hn : mL md = nL) : SOKN l g D sl h u q q' mi Pf pc (nSt nL i 2 isRN) := by subst hn; exact kp hm hI.1 (fun _ _ _ _ _ _ hh => nSt_in hh)
theorem k_astore_n {k : Fin 4} {i nL : Nat} (hm : TB[mi]? = some (md, tl)) (hI : IOK WB AD SR FW TB md pc (.astore_n k, x, y, z, fk)) (hk : k.val = i) (hn : mL md = nL) : SOKN l g D sl h u q q' mi Pf pc (nSt nL i 1 isRN) := by subst hk; subst hn; exact kp hm hI.1 (fun _ _ _ _ _ _ hh => nSt_in hh)
theorem k_iinc {i n nL : Nat} {cst : Int} (hm : TB[mi]? = some (md, tl)) (hI : IOK WB AD SR FW TB md pc (.iinc i cst, x, y, z, fk)) (hn : mL md = nL) (hi : i2n cst = n) : SOKN l g D sl h u q q' mi Pf pc (nInc nL i n) := by
  subst hn
  subst hi
  refine kp hm hI.1 (fun cc rc als ast M r hh => ?_)
  unfold nInc at hh
  split at hh
  · rename_i v he
    cases e3 : Nat.blt i (mL md) with
    | false => rw [e3] at hh; cases hh
    | true =>
      rw [e3] at hh
      refine ⟨(pc + 3, lst als i (.inl ((v + i2n cst) % 4294967296)), ast), ?_, hh⟩
      show (match (generalizing := false) llk als i with
        | some (.inl n) => if i < mL md then some (pc + 3, lst als i (.inl ((n + i2n cst) % 4294967296)), ast) else none
        | _ => none) = _
      rw [he]
      show (if i < mL md then _ else _) = _
      rw [if_pos (show i < mL md from Nat.le_of_ble_eq_true e3)]
  · cases hh
theorem nBin_in {f : Nat → Nat → Nat} {cc : CCN} {rc : KN} {als : Als} {ast : List AV} {M : Nat} {r : Nat × Nat} (hh : nBin f cc rc pc als ast M = some r) : ∃ b a rest, ast = .inl b :: .inl a :: rest ∧ rc (pc + 1) als (.inl (f a b) :: rest) M = some r := by
  unfold nBin at hh
  split at hh
  · exact ⟨_, _, _, rfl, hh⟩
  · cases hh
theorem k_iadd (hm : TB[mi]? = some (md, tl)) (hI : IOK WB AD SR FW TB md pc (.iadd, x, y, z, fk)) : SOKN l g D sl h u q q' mi Pf pc (nBin oAdd) := kp hm hI.1 (fun cc rc als ast M r hh => by
  obtain ⟨b, a, rest, rfl, h2⟩ := nBin_in hh
  exact ⟨_, rfl, h2⟩)
theorem k_isub (hm : TB[mi]? = some (md, tl)) (hI : IOK WB AD SR FW TB md pc (.isub, x, y, z, fk)) : SOKN l g D sl h u q q' mi Pf pc (nBin oSub) := kp hm hI.1 (fun cc rc als ast M r hh => by
  obtain ⟨b, a, rest, rfl, h2⟩ := nBin_in hh
  exact ⟨_, rfl, h2⟩)
theorem k_imul (hm : TB[mi]? = some (md, tl)) (hI : IOK WB AD SR FW TB md pc (.imul, x, y, z, fk)) : SOKN l g D sl h u q q' mi Pf pc (nBin oMul) := kp hm hI.1 (fun cc rc als ast M r hh => by
  obtain ⟨b, a, rest, rfl, h2⟩ := nBin_in hh
  exact ⟨_, rfl, h2⟩)
theorem k_ior (hm : TB[mi]? = some (md, tl)) (hI : IOK WB AD SR FW TB md pc (.ior, x, y, z, fk)) : SOKN l g D sl h u q q' mi Pf pc (nBin oOr) := kp hm hI.1 (fun cc rc als ast M r hh => by
  obtain ⟨b, a, rest, rfl, h2⟩ := nBin_in hh
  exact ⟨_, rfl, h2⟩)
theorem k_ixor (hm : TB[mi]? = some (md, tl)) (hI : IOK WB AD SR FW TB md pc (.ixor, x, y, z, fk)) : SOKN l g D sl h u q q' mi Pf pc (nBin oXor) := kp hm hI.1 (fun cc rc als ast M r hh => by
  obtain ⟨b, a, rest, rfl, h2⟩ := nBin_in hh
  exact ⟨_, rfl, h2⟩)
theorem k_iand (hm : TB[mi]? = some (md, tl)) (hI : IOK WB AD SR FW TB md pc (.iand, x, y, z, fk)) : SOKN l g D sl h u q q' mi Pf pc (nBin oAnd) := kp hm hI.1 (fun cc rc als ast M r hh => by
  obtain ⟨b, a, rest, rfl, h2⟩ := nBin_in hh
  refine ⟨(pc + 1, als, .inl (oAnd a b) :: rest), ?_, h2⟩
  show (match (generalizing := false) (.inl b :: .inl a :: rest : List AV) with
      | .inl 63 :: .inr (.inl 0) :: rest => if (64 : Nat) < 64 then some (pc + 1, als, (.inl 64 : AV) :: rest) else none
      | _ => ar2 (fun a b => .inl (a % 4294967296 &&& b % 4294967296)) (pc + 1) als (.inl b :: .inl a :: rest)) = _
  split
  · rename_i heq
    cases heq
  · rfl)
theorem k_ishl (hm : TB[mi]? = some (md, tl)) (hI : IOK WB AD SR FW TB md pc (.ishl, x, y, z, fk)) : SOKN l g D sl h u q q' mi Pf pc (nBin oShl) := kp hm hI.1 (fun cc rc als ast M r hh => by
  obtain ⟨b, a, rest, rfl, h2⟩ := nBin_in hh
  refine ⟨(pc + 1, als, .inl (oShl a b) :: rest), ?_, h2⟩
  show some (pc + 1, als, (.inl (a * 2 ^ (b % 32) % 4294967296) : AV) :: rest) = _
  have e : oShl a b = a * 2 ^ (b % 32) % 4294967296 := by
    show (a <<< (b % 32)) % 4294967296 = _
    rw [Nat.shiftLeft_eq]
  rw [e])
theorem k_iushr (hm : TB[mi]? = some (md, tl)) (hI : IOK WB AD SR FW TB md pc (.iushr, x, y, z, fk)) : SOKN l g D sl h u q q' mi Pf pc (nBin oUshr) := kp hm hI.1 (fun cc rc als ast M r hh => by
  obtain ⟨b, a, rest, rfl, h2⟩ := nBin_in hh
  refine ⟨(pc + 1, als, .inl (oUshr a b) :: rest), ?_, h2⟩
  show some (pc + 1, als, (.inl (a % 4294967296 / 2 ^ (b % 32)) : AV) :: rest) = _
  have e : oUshr a b = a % 4294967296 / 2 ^ (b % 32) := by
    show (a % 4294967296) >>> (b % 32) = _
    rw [Nat.shiftRight_eq_div_pow]
  rw [e])
theorem k_ineg (hm : TB[mi]? = some (md, tl)) (hI : IOK WB AD SR FW TB md pc (.ineg, x, y, z, fk)) : SOKN l g D sl h u q q' mi Pf pc nNeg := kp hm hI.1 (fun cc rc als ast M r hh => by
  unfold nNeg at hh
  split at hh
  · exact ⟨_, rfl, hh⟩
  · cases hh)
theorem k_ishr (hm : TB[mi]? = some (md, tl)) (hI : IOK WB AD SR FW TB md pc (.ishr, x, y, z, fk)) : SOKN l g D sl h u q q' mi Pf pc nShr := kp hm hI.1 (fun cc rc als ast M r hh => by
  unfold nShr at hh
  split at hh
  · rename_i b a rest
    obtain ⟨h1, h2⟩ := bK_t hh
    have h1 : a < 2147483648 := Nat.le_of_ble_eq_true h1
    refine ⟨(pc + 1, als, .inl (a / 2 ^ (b % 32)) :: rest), ?_, ?_⟩
    · show some (pc + 1, als, (if a < 2147483648 then (.inl (a / 2 ^ (b % 32)) : AV) else unk) :: rest) = _
      rw [if_pos h1]
    · have e : Nat.shiftRight a (Nat.mod b 32) = a / 2 ^ (b % 32) := Nat.shiftRight_eq_div_pow a (b % 32)
      rw [fK_eq, e] at h2
      exact h2
  · cases hh)
theorem nDR_in {f : Nat → Nat → Nat} {cc : CCN} {rc : KN} {als : Als} {ast : List AV} {M : Nat} {r : Nat × Nat} (hh : nDR f cc rc pc als ast M = some r) : ∃ b a rest, ast = .inl b :: .inl a :: rest ∧ a < 2147483648 ∧ b < 2147483648 ∧ 0 < b ∧ rc (pc + 1) als (.inl (f a b) :: rest) M = some r := by
  unfold nDR at hh
  split at hh
  · obtain ⟨h1, h2⟩ := bK_t hh
    obtain ⟨h3, h4⟩ := bK_t h2
    obtain ⟨h5, h6⟩ := bK_t h4
    exact ⟨_, _, _, rfl, Nat.le_of_ble_eq_true h1, Nat.le_of_ble_eq_true h3, Nat.le_of_ble_eq_true h5, h6⟩
  · cases hh
theorem k_idiv (hm : TB[mi]? = some (md, tl)) (hI : IOK WB AD SR FW TB md pc (.idiv, x, y, z, fk)) : SOKN l g D sl h u q q' mi Pf pc (nDR Nat.div) := kp hm hI.1 (fun cc rc als ast M r hh => by
  obtain ⟨b, a, rest, rfl, h1, h2, h3, h4⟩ := nDR_in hh
  refine ⟨(pc + 1, als, .inl (Nat.div a b) :: rest), ?_, h4⟩
  show (if a < 2147483648 then (if b < 2147483648 then (if 0 < b then some (pc + 1, als, (.inl (a / b) : AV) :: rest) else none) else none) else none) = _
  rw [if_pos h1, if_pos h2, if_pos h3]
  rfl)
theorem k_irem (hm : TB[mi]? = some (md, tl)) (hI : IOK WB AD SR FW TB md pc (.irem, x, y, z, fk)) : SOKN l g D sl h u q q' mi Pf pc (nDR Nat.mod) := kp hm hI.1 (fun cc rc als ast M r hh => by
  obtain ⟨b, a, rest, rfl, h1, h2, h3, h4⟩ := nDR_in hh
  refine ⟨(pc + 1, als, .inl (Nat.mod a b) :: rest), ?_, h4⟩
  show (if a < 2147483648 then (if b < 2147483648 then (if 0 < b then some (pc + 1, als, (.inl (a % b) : AV) :: rest) else none) else none) else none) = _
  rw [if_pos h1, if_pos h2, if_pos h3]
  rfl)
theorem k_dup (hm : TB[mi]? = some (md, tl)) (hI : IOK WB AD SR FW TB md pc (.dup, x, y, z, fk)) : SOKN l g D sl h u q q' mi Pf pc nDup := kp hm hI.1 (fun cc rc als ast M r hh => by
  unfold nDup at hh
  split at hh
  · rename_i a rest
    split at hh
    · rename_i h1
      refine ⟨(pc + 1, als, a :: a :: rest), ?_, hh⟩
      show (match Nat.beq (acat a) 1 with
        | true => some (pc + 1, als, a :: a :: rest)
        | false => none) = _
      rw [h1]
    · cases hh
  · cases hh)
theorem k_dup_x1 (hm : TB[mi]? = some (md, tl)) (hI : IOK WB AD SR FW TB md pc (.dup_x1, x, y, z, fk)) : SOKN l g D sl h u q q' mi Pf pc nDupX := kp hm hI.1 (fun cc rc als ast M r hh => by
  unfold nDupX at hh
  split at hh
  · rename_i a b rest
    split at hh
    · rename_i h1
      refine ⟨(pc + 1, als, a :: b :: a :: rest), ?_, hh⟩
      show (match Nat.beq (acat a) 1 && Nat.beq (acat b) 1 with
        | true => some (pc + 1, als, a :: b :: a :: rest)
        | false => none) = _
      rw [h1]
    · cases hh
  · cases hh)
theorem k_dup2 (hm : TB[mi]? = some (md, tl)) (hI : IOK WB AD SR FW TB md pc (.dup2, x, y, z, fk)) : SOKN l g D sl h u q q' mi Pf pc nDup2 := kp hm hI.1 (fun cc rc als ast M r hh => by
  unfold nDup2 at hh
  split at hh
  · rename_i a b rest
    split at hh
    · rename_i h1
      refine ⟨(pc + 1, als, a :: b :: a :: b :: rest), ?_, hh⟩
      show (match Nat.beq (acat a) 1 && Nat.beq (acat b) 1 with
        | true => some (pc + 1, als, a :: b :: a :: b :: rest)
        | false => none) = _
      rw [h1]
    · cases hh
  · cases hh)
theorem k_pop (hm : TB[mi]? = some (md, tl)) (hI : IOK WB AD SR FW TB md pc (.pop, x, y, z, fk)) : SOKN l g D sl h u q q' mi Pf pc nPop := kp hm hI.1 (fun cc rc als ast M r hh => by
  unfold nPop at hh
  split at hh
  · rename_i a rest
    split at hh
    · rename_i h1
      refine ⟨(pc + 1, als, rest), ?_, hh⟩
      show (match Nat.beq (acat a) 1 with
        | true => some (pc + 1, als, rest)
        | false => none) = _
      rw [h1]
    · cases hh
  · cases hh)
theorem jmp_t {t pc len : Nat} {o : Int} {als : Als} {ast : List AV} (ht : tgt pc o = some t) : jmp (some true) pc len o als ast = some (t, als, ast) := by
  unfold jmp; rw [ht]
theorem jmp_f {t pc len : Nat} {o : Int} {als : Als} {ast : List AV} (ht : tgt pc o = some t) : jmp (some false) pc len o als ast = some (pc + len, als, ast) := by
  unfold jmp; rw [ht]
theorem k_goto {t : Nat} {o : Int} (hm : TB[mi]? = some (md, tl)) (hI : IOK WB AD SR FW TB md pc (.goto o, x, y, z, fk)) (ht : tgt pc o = some t) : SOKN l g D sl h u q q' mi Pf pc (nGo t) := kp hm hI.1 (fun cc rc als ast M r hh => ⟨_, jmp_t (len := 3) ht, hh⟩)
theorem k_if {t : Nat} {c : Jvm.ClassFile.Cond} {o : Int} (hm : TB[mi]? = some (md, tl)) (hI : IOK WB AD SR FW TB md pc (.ifCond c o, x, y, z, fk)) (ht : tgt pc o = some t) : SOKN l g D sl h u q q' mi Pf pc (nIf (cZ c) t) := kp hm hI.1 (fun cc rc als ast M r hh => by
  unfold nIf at hh
  split at hh
  · rename_i a rest
    rcases bK_in hh with ⟨h1, h2⟩ | ⟨h1, h2⟩
    · refine ⟨(t, als, rest), ?_, h2⟩
      show jmp (cmp2 [] c (.inl a) (.inl 0)) pc 3 o als rest = _
      rw [cmp2_cZ, h1]
      exact jmp_t ht
    · refine ⟨(pc + 3, als, rest), ?_, h2⟩
      show jmp (cmp2 [] c (.inl a) (.inl 0)) pc 3 o als rest = _
      rw [cmp2_cZ, h1]
      exact jmp_f ht
  · cases hh)
theorem k_ic {t : Nat} {c : Jvm.ClassFile.Cond} {o : Int} (hm : TB[mi]? = some (md, tl)) (hI : IOK WB AD SR FW TB md pc (.if_icmp c o, x, y, z, fk)) (ht : tgt pc o = some t) : SOKN l g D sl h u q q' mi Pf pc (nIc (cN c) t) := kp hm hI.1 (fun cc rc als ast M r hh => by
  unfold nIc at hh
  split at hh
  · rename_i b a rest
    rcases bK_in hh with ⟨h1, h2⟩ | ⟨h1, h2⟩
    · refine ⟨(t, als, rest), ?_, h2⟩
      show jmp (cmp2 [] c (.inl a) (.inl b)) pc 3 o als rest = _
      rw [cmp2_cN, h1]
      exact jmp_t ht
    · refine ⟨(pc + 3, als, rest), ?_, h2⟩
      show jmp (cmp2 [] c (.inl a) (.inl b)) pc 3 o als rest = _
      rw [cmp2_cN, h1]
      exact jmp_f ht
  · cases hh)
theorem k_ldc {idx n : Nat} (hm : TB[mi]? = some (md, tl)) (hI : IOK WB AD SR FW TB md pc (.ldc idx, n, y, z, fk)) : SOKN l g D sl h u q q' mi Pf pc (nC n 2) := by
  intro cc rc hc hr als ast M r hh mt hmt dep hdep p e R s m args below meth c H locs cells slots Q A ρ tys ls st C hR hL hS hu hv K
  cases hm.symm.trans hmt
  obtain ⟨hx, hb, hml, hts, hown, hin, hA, hAmb, hRR, hlt, hlk, htab, hret, hscr⟩ := id C
  have h3 : Jvm.Cond.constant (mO md) idx (nI n) ∈ WB := hI.2.2
  exact lv_ldc hx hb hown (hts _ h3) hI.1 (hr _ _ _ _ _ hh _ hmt dep hdep p e R s m args below meth c H locs cells slots Q A ρ tys ls _ C hR hL (F2_mk rfl hS) hu hv K)
theorem k_ldc_w {idx n : Nat} (hm : TB[mi]? = some (md, tl)) (hI : IOK WB AD SR FW TB md pc (.ldc_w idx, n, y, z, fk)) : SOKN l g D sl h u q q' mi Pf pc (nC n 3) := by
  intro cc rc hc hr als ast M r hh mt hmt dep hdep p e R s m args below meth c H locs cells slots Q A ρ tys ls st C hR hL hS hu hv K
  cases hm.symm.trans hmt
  obtain ⟨hx, hb, hml, hts, hown, hin, hA, hAmb, hRR, hlt, hlk, htab, hret, hscr⟩ := id C
  have h3 : Jvm.Cond.constant (mO md) idx (nI n) ∈ WB := hI.2.2
  exact lv_ldcw hx hb hown (hts _ h3) hI.1 (hr _ _ _ _ _ hh _ hmt dep hdep p e R s m args below meth c H locs cells slots Q A ρ tys ls _ C hR hL (F2_mk rfl hS) hu hv K)
theorem k_gi {idx i a : Nat} (hm : TB[mi]? = some (md, tl)) (hI : IOK WB AD SR FW TB md pc (.getfield idx, x, y, z, fk)) (hT : tabF LT i x y = some (some (.inl a))) : SOKN l g D sl h u q q' mi Pf pc (nGI i a) := by
  intro cc rc hc hr als ast M r hh mt hmt dep hdep p e R s m args below meth c H locs cells slots Q A ρ tys ls st C hR hL hS hu hv K
  cases hm.symm.trans hmt
  obtain ⟨hx, hb, hml, hts, hown, hin, hA, hAmb, hRR, hlt, hlk, htab, hret, hscr⟩ := id C
  unfold nGI at hh
  split at hh
  · rename_i j rest
    obtain ⟨h1, h2⟩ := bK_t hh
    obtain ⟨n, h3, h4⟩ := rK_in h2
    have h1 := Nat.eq_of_beq_eq_true h1
    subst h1
    obtain ⟨v, vs, rfl, hr1, hS1⟩ := F2_cons hS
    obtain ⟨b, hb0, rfl⟩ := hr1
    refine gn_get hx hb hts hown hI.2.1 hT hR hb0 hI.1 (fun v hv0 => ?_)
    obtain ⟨x', rfl, hx'⟩ := hv0
    exact hr _ _ _ _ _ h4 _ hmt dep hdep p e R s m args below meth c H locs cells slots Q A ρ tys ls _ C hR hL (F2_mk (congrArg Value.int (hx' n h3)) hS1) hu hv K
  · cases hh
theorem k_gr {idx i j0 : Nat} (hm : TB[mi]? = some (md, tl)) (hI : IOK WB AD SR FW TB md pc (.getfield idx, x, y, z, fk)) (hT : tabF LT i x y = some (some (.inr j0))) : SOKN l g D sl h u q q' mi Pf pc (nGR i j0) := by
  intro cc rc hc hr als ast M r hh mt hmt dep hdep p e R s m args below meth c H locs cells slots Q A ρ tys ls st C hR hL hS hu hv K
  cases hm.symm.trans hmt
  obtain ⟨hx, hb, hml, hts, hown, hin, hA, hAmb, hRR, hlt, hlk, htab, hret, hscr⟩ := id C
  unfold nGR at hh
  split at hh
  · rename_i j rest
    obtain ⟨h1, h2⟩ := bK_t hh
    have h1 := Nat.eq_of_beq_eq_true h1
    subst h1
    obtain ⟨v, vs, rfl, hr1, hS1⟩ := F2_cons hS
    obtain ⟨b, hb0, rfl⟩ := hr1
    refine gn_get hx hb hts hown hI.2.1 hT hR hb0 hI.1 (fun v hv0 => ?_)
    exact hr _ _ _ _ _ h2 _ hmt dep hdep p e R s m args below meth c H locs cells slots Q A ρ tys ls _ C hR hL (F2_mk hv0 hS1) hu hv K
  · cases hh
theorem k_pi {idx i a : Nat} (hm : TB[mi]? = some (md, tl)) (hI : IOK WB AD SR FW TB md pc (.putfield idx, x, y, 0, fk)) (hi : mI md = false) (hT : tabF LT i x y = some (some (.inl a))) : SOKN l g D sl h u q q' mi Pf pc (nPI i a) := by
  intro cc rc hc hr als ast M r hh mt hmt dep hdep p e R s m args below meth c H locs cells slots Q A ρ tys ls st C hR hL hS hu hv K
  cases hm.symm.trans hmt
  obtain ⟨hx, hb, hml, hts, hown, hin, hA, hAmb, hRR, hlt, hlk, htab, hret, hscr⟩ := id C
  unfold nPI at hh
  split at hh
  · rename_i n j rest
    obtain ⟨h1, h2⟩ := bK_t hh
    have h1 := Nat.eq_of_beq_eq_true h1
    subst h1
    obtain ⟨v0, vs0, rfl, hr0, hS0⟩ := F2_cons hS
    obtain ⟨v, vs, rfl, hr1, hS1⟩ := F2_cons hS0
    obtain ⟨b, hb0, rfl⟩ := hr1
    rw [show v0 = .int (nI n) from hr0]
    have h7 : POK (mO md) (mI md) x y 0 := hI.2.1.2
    rw [hi] at h7
    exact gn_put hx hb hts hown hI.2.1.1 h7 hT LT_ok (Or.inl rfl) hR hb0 hI.1 (fun H' locs' hR' => hr _ _ _ _ _ h2 _ hmt dep hdep p e R s m args below meth c H' locs' cells slots Q A ρ tys ls _ C hR' hL hS1 hu hv K)
  · cases hh
theorem k_pb {idx i a : Nat} (hm : TB[mi]? = some (md, tl)) (hI : IOK WB AD SR FW TB md pc (.putfield idx, x, y, 1, fk)) (hi : mI md = false) (hT : tabF LT i x y = some (some (.inl a))) : SOKN l g D sl h u q q' mi Pf pc (nPB i a) := by
  intro cc rc hc hr als ast M r hh mt hmt dep hdep p e R s m args below meth c H locs cells slots Q A ρ tys ls st C hR hL hS hu hv K
  cases hm.symm.trans hmt
  obtain ⟨hx, hb, hml, hts, hown, hin, hA, hAmb, hRR, hlt, hlk, htab, hret, hscr⟩ := id C
  unfold nPB at hh
  split at hh
  · rename_i n j rest
    obtain ⟨h1, h2⟩ := bK_t hh
    obtain ⟨h3, h4⟩ := bK_t h2
    have h1 := Nat.eq_of_beq_eq_true h1
    subst h1
    obtain ⟨v0, vs0, rfl, hr0, hS0⟩ := F2_cons hS
    obtain ⟨v, vs, rfl, hr1, hS1⟩ := F2_cons hS0
    obtain ⟨b, hb0, rfl⟩ := hr1
    rw [show v0 = .int (nI n) from hr0]
    have h7 : POK (mO md) (mI md) x y 1 := hI.2.1.2
    rw [hi] at h7
    exact gn_put hx hb hts hown hI.2.1.1 h7 hT LT_ok (Or.inr ⟨rfl, Nat.le_of_ble_eq_true h3⟩) hR hb0 hI.1 (fun H' locs' hR' => hr _ _ _ _ _ h4 _ hmt dep hdep p e R s m args below meth c H' locs' cells slots Q A ρ tys ls _ C hR' hL hS1 hu hv K)
  · cases hh
theorem k_aldG {k0 i len base w C hi : Nat} {ins : Instr} (hm : TB[mi]? = some (md, tl)) (hd : decode (mC md) pc = .ok (ins, 1)) (hk : (k0 = 0 ∧ ins = .iaload) ∨ (k0 = 1 ∧ ins = .baload)) (hT : tabA LT i k0 len base w C hi = true) : SOKN l g D sl h u q q' mi Pf pc (nIA i base w) := by
  intro cc rc hc hr als ast M r hh mt hmt dep hdep p e R s m args below meth c H locs cells slots Q A ρ tys ls st C hR hL hS hu hv K
  cases hm.symm.trans hmt
  obtain ⟨hx, hb, hml, hts, hown, hin, hA, hAmb, hRR, hlt, hlk, htab, hret, hscr⟩ := id C
  unfold nIA at hh
  split at hh
  · rename_i n j rest
    obtain ⟨h1, h2⟩ := bK_t hh
    obtain ⟨h3, h4⟩ := bK_t h2
    obtain ⟨n', h5, h6⟩ := rK_in h4
    have h1 := Nat.eq_of_beq_eq_true h1
    subst h1
    obtain ⟨v0, vs0, rfl, hr0, hS0⟩ := F2_cons hS
    obtain ⟨v, vs, rfl, hr1, hS1⟩ := F2_cons hS0
    obtain ⟨b, hb0, rfl⟩ := hr1
    rw [show v0 = .int (nI n) from hr0]
    have h3 : n < w := Nat.le_of_ble_eq_true h3
    have hwC := (tabA_in hT).2.1
    refine gn_ald hT hk hx hb (aX_lo (by omega) h3) hR hb0 hd (fun v hv0 => ?_)
    exact hr _ _ _ _ _ h6 _ hmt dep hdep p e R s m args below meth c H locs cells slots Q A ρ tys ls _ C hR hL (F2_mk (congrArg Value.int (hv0 n' h5)) hS1) hu hv K
  · cases hh
theorem k_ia {i len base w C hi : Nat} (hm : TB[mi]? = some (md, tl)) (hI : IOK WB AD SR FW TB md pc (.iaload, x, y, z, fk)) (hT : tabA LT i 0 len base w C hi = true) : SOKN l g D sl h u q q' mi Pf pc (nIA i base w) := k_aldG hm hI.1 (Or.inl ⟨rfl, rfl⟩) hT
theorem k_ba {i len base w C hi : Nat} (hm : TB[mi]? = some (md, tl)) (hI : IOK WB AD SR FW TB md pc (.baload, x, y, z, fk)) (hT : tabA LT i 1 len base w C hi = true) : SOKN l g D sl h u q q' mi Pf pc (nIA i base w) := k_aldG hm hI.1 (Or.inr ⟨rfl, rfl⟩) hT
theorem k_is {i len base w C hi : Nat} (hm : TB[mi]? = some (md, tl)) (hI : IOK WB AD SR FW TB md pc (.iastore, x, y, z, fk)) (hT : tabA LT i 0 len base w C hi = true) : SOKN l g D sl h u q q' mi Pf pc (nIS i base w) := by
  intro cc rc hc hr als ast M r hh mt hmt dep hdep p e R s m args below meth c H locs cells slots Q A ρ tys ls st C hR hL hS hu hv K
  cases hm.symm.trans hmt
  obtain ⟨hx, hb, hml, hts, hown, hin, hA, hAmb, hRR, hlt, hlk, htab, hret, hscr⟩ := id C
  unfold nIS at hh
  split at hh
  · rename_i v' n j rest
    obtain ⟨h1, h2⟩ := bK_t hh
    obtain ⟨h3, h4⟩ := bK_t h2
    have h1 := Nat.eq_of_beq_eq_true h1
    subst h1
    obtain ⟨v9, vs9, rfl, hr9, hS9⟩ := F2_cons hS
    obtain ⟨v0, vs0, rfl, hr0, hS0⟩ := F2_cons hS9
    obtain ⟨v, vs, rfl, hr1, hS1⟩ := F2_cons hS0
    obtain ⟨b, hb0, rfl⟩ := hr1
    rw [show v0 = .int (nI n) from hr0, show v9 = .int (nI v') from hr9]
    have h3 : n < w := Nat.le_of_ble_eq_true h3
    have hwC := (tabA_in hT).2.1
    exact gn_ast hT (Or.inl ⟨rfl, rfl⟩) LT_ok hx hb (aX_lo (by omega) h3) hR hb0 hI.1 (fun H' locs' hR' => hr _ _ _ _ _ h4 _ hmt dep hdep p e R s m args below meth c H' locs' cells slots Q A ρ tys ls _ C hR' hL hS1 hu hv K)
  · cases hh
theorem k_is2 {i len base w C hi : Nat} (hm : TB[mi]? = some (md, tl)) (hI : IOK WB AD SR FW TB md pc (.iastore, x, y, z, fk)) (hT : tabA LT i 0 len base w C hi = true) : SOKN l g D sl h u q q' mi Pf pc (nIS2 i base w C hi) := by
  intro cc rc hc hr als ast M r hh mt hmt dep hdep p e R s m args below meth c H locs cells slots Q A ρ tys ls st C hR hL hS hu hv K
  cases hm.symm.trans hmt
  obtain ⟨hx, hb, hml, hts, hown, hin, hA, hAmb, hRR, hlt, hlk, htab, hret, hscr⟩ := id C
  unfold nIS2 at hh
  split at hh
  · rename_i v' n j rest
    obtain ⟨h1, h2⟩ := bK_t hh
    obtain ⟨a, h3, h4⟩ := aK_in h2
    have h1 := Nat.eq_of_beq_eq_true h1
    subst h1
    obtain ⟨v9, vs9, rfl, hr9, hS9⟩ := F2_cons hS
    obtain ⟨v0, vs0, rfl, hr0, hS0⟩ := F2_cons hS9
    obtain ⟨v, vs, rfl, hr1, hS1⟩ := F2_cons hS0
    obtain ⟨b, hb0, rfl⟩ := hr1
    rw [show v0 = .int (nI n) from hr0, show v9 = .int (nI v') from hr9]
    exact gn_ast hT (Or.inl ⟨rfl, rfl⟩) LT_ok hx hb h3 hR hb0 hI.1 (fun H' locs' hR' => hr _ _ _ _ _ h4 _ hmt dep hdep p e R s m args below meth c H' locs' cells slots Q A ρ tys ls _ C hR' hL hS1 hu hv K)
  · cases hh
theorem k_ia2 {i len base w C hi : Nat} (hm : TB[mi]? = some (md, tl)) (hI : IOK WB AD SR FW TB md pc (.iaload, x, y, z, fk)) (hT : tabA LT i 0 len base w C hi = true) : SOKN l g D sl h u q q' mi Pf pc (nIA2 i base w C hi) := by
  intro cc rc hc hr als ast M r hh mt hmt dep hdep p e R s m args below meth c H locs cells slots Q A ρ tys ls st C hR hL hS hu hv K
  cases hm.symm.trans hmt
  obtain ⟨hx, hb, hml, hts, hown, hin, hA, hAmb, hRR, hlt, hlk, htab, hret, hscr⟩ := id C
  unfold nIA2 at hh
  split at hh
  · rename_i n j rest
    obtain ⟨h1, h2⟩ := bK_t hh
    obtain ⟨a, h3, h4⟩ := aK_in h2
    obtain ⟨n', h5, h6⟩ := rK_in h4
    have h1 := Nat.eq_of_beq_eq_true h1
    subst h1
    obtain ⟨v0, vs0, rfl, hr0, hS0⟩ := F2_cons hS
    obtain ⟨v, vs, rfl, hr1, hS1⟩ := F2_cons hS0
    obtain ⟨b, hb0, rfl⟩ := hr1
    rw [show v0 = .int (nI n) from hr0]
    refine gn_ald hT (Or.inl ⟨rfl, rfl⟩) hx hb h3 hR hb0 hI.1 (fun v hv0 => ?_)
    exact hr _ _ _ _ _ h6 _ hmt dep hdep p e R s m args below meth c H locs cells slots Q A ρ tys ls _ C hR hL (F2_mk (congrArg Value.int (hv0 n' h5)) hS1) hu hv K
  · cases hh
theorem k_bs {i len base w C hi : Nat} (hm : TB[mi]? = some (md, tl)) (hI : IOK WB AD SR FW TB md pc (.bastore, x, y, z, fk)) (hT : tabA LT i 1 len base w C hi = true) : SOKN l g D sl h u q q' mi Pf pc (nBS i base w) := by
  intro cc rc hc hr als ast M r hh mt hmt dep hdep p e R s m args below meth c H locs cells slots Q A ρ tys ls st C hR hL hS hu hv K
  cases hm.symm.trans hmt
  obtain ⟨hx, hb, hml, hts, hown, hin, hA, hAmb, hRR, hlt, hlk, htab, hret, hscr⟩ := id C
  unfold nBS at hh
  split at hh
  · rename_i v' n j rest
    obtain ⟨h1, h2⟩ := bK_t hh
    obtain ⟨h3, h4⟩ := bK_t h2
    obtain ⟨h5, h6⟩ := bK_t h4
    have h1 := Nat.eq_of_beq_eq_true h1
    subst h1
    obtain ⟨v9, vs9, rfl, hr9, hS9⟩ := F2_cons hS
    obtain ⟨v0, vs0, rfl, hr0, hS0⟩ := F2_cons hS9
    obtain ⟨v, vs, rfl, hr1, hS1⟩ := F2_cons hS0
    obtain ⟨b, hb0, rfl⟩ := hr1
    rw [show v0 = .int (nI n) from hr0, show v9 = .int (nI v') from hr9]
    have h3 : n < w := Nat.le_of_ble_eq_true h3
    have hwC := (tabA_in hT).2.1
    exact gn_ast hT (Or.inr ⟨rfl, rfl, Nat.le_of_ble_eq_true h5⟩) LT_ok hx hb (aX_lo (by omega) h3) hR hb0 hI.1 (fun H' locs' hR' => hr _ _ _ _ _ h6 _ hmt dep hdep p e R s m args below meth c H' locs' cells slots Q A ρ tys ls _ C hR' hL hS1 hu hv K)
  · cases hh
theorem k_cp {idx i len base w C hi : Nat} (h8 : 7 ≤ h) (hm : TB[mi]? = some (md, tl)) (hI : IOK WB AD SR FW TB md pc (.invokestatic idx, 1000, y, z, fk)) (hT : tabA LT i 0 len base w C hi = true) : SOKN l g D sl h u q q' mi Pf pc (nCp i base w C hi) := by
  intro cc rc hc hr als ast M r hh mt hmt dep hdep p e R s m args below meth c H locs cells slots Q A ρ tys ls st C hR hL hS hu hv K
  cases hm.symm.trans hmt
  obtain ⟨hx, hb, hml, hts, hown, hin, hA, hAmb, hRR, hlt, hlk, htab, hret, hscr⟩ := id C
  obtain ⟨l1, l2, l3, l4⟩ : Jvm.Cond.methodLink (mO md) idx arraycopyName ∈ WB ∧ Jvm.Cond.native arraycopyName ∈ WB ∧ Jvm.Cond.static arraycopyName ∈ WB ∧ Jvm.Cond.initialized "java/lang/System" ∈ WB := by
    rcases hI.2.2 with ⟨-, h1⟩ | ⟨h1, -⟩ | h1 | ⟨mt, h1, -⟩
    · exact h1
    · cases h1
    · cases h1
    · have h2 := (List.getElem?_eq_some_iff.mp h1).1
      have h3 := TL_ok
      exact absurd h2 (by show ¬ 1000 < TB.length; omega)
  unfold nCp at hh
  split at hh
  · rename_i n dp j sp j' rest
    obtain ⟨h1, h2⟩ := bK_t hh
    obtain ⟨h3, h4⟩ := bK_t h2
    obtain ⟨h5, h6⟩ := bK_t h4
    obtain ⟨a1, h7, h8⟩ := aK_in h6
    obtain ⟨a2, h9, h10⟩ := aK_in h8
    have h1 := Nat.eq_of_beq_eq_true h1
    have h3 := Nat.eq_of_beq_eq_true h3
    subst h1
    subst h3
    obtain ⟨v1, s1, rfl, hr1, hS1⟩ := F2_cons hS
    obtain ⟨v2, s2, rfl, hr2, hS2⟩ := F2_cons hS1
    obtain ⟨v3, s3, rfl, hr3, hS3⟩ := F2_cons hS2
    obtain ⟨v4, s4, rfl, hr4, hS4⟩ := F2_cons hS3
    obtain ⟨v5, s5, rfl, hr5, hS5⟩ := F2_cons hS4
    obtain ⟨b, hb0, rfl⟩ := hr3
    obtain ⟨b', hb1, rfl⟩ := hr5
    cases hb0.symm.trans hb1
    rw [show v1 = .int (nI n) from hr1, show v2 = .int (nI dp) from hr2, show v4 = .int (nI sp) from hr4]
    have hc9 := F2_cats hS5
    have h5 := Nat.le_of_ble_eq_true h5
    obtain ⟨hf1, hf2⟩ := hRR
    unfold FRM at hf1
    unfold LOC at hf2
    exact gn_cp hT LT_ok hx hb (hml.trans (LR_size hL).symm) hts hown l1 l2 l3 l4 h7 h9 (by omega) (dep := dep - 8) (by omega) (by omega) hR hb0 hI.1 (fun H' locs' hR' => hr _ _ _ _ _ h10 _ hmt dep hdep p e R s m args below meth c H' locs' cells slots Q A ρ tys ls _ C hR' hL hS5 hu hv K)
  · cases hh
theorem k_ri (hm : TB[mi]? = some (md, tl)) (hI : IOK WB AD SR FW TB md pc (.ireturn, x, y, z, fk)) (hrt : mR md = some .int) (hP : ∀ t M, Pf (t, M) t M) (hq : q = q') : SOKN l g D sl h u q q' mi Pf pc nRI := by
  subst hq
  intro cc rc hc hr als ast M r hh mt hmt dep hdep p e R s m args below meth c H locs cells slots Q A ρ tys ls st C hR hL hS hu hv K
  cases hm.symm.trans hmt
  unfold nRI at hh
  split at hh
  · rename_i v
    have hh := sj hh
    subst hh
    obtain ⟨v0, vs, rfl, hr0, hS0⟩ := F2_cons hS
    rw [F2_nil hS0, show v0 = .int (nI v) from hr0]
    exact K _ _ (hP _ _) ρ tys H locs pc ls _ cells slots ExtP.rf hR ⟨rfl, by rw [hrt]; rfl, hI.1⟩ (Nat.le_add_right _ _) (Nat.le_add_right _ _)
  · cases hh
theorem k_rb (hm : TB[mi]? = some (md, tl)) (hI : IOK WB AD SR FW TB md pc (.ireturn, x, y, z, fk)) (hrt : mR md = some .boolean) (hP : ∀ t M, Pf (t, M) t M) (hq : q = q') : SOKN l g D sl h u q q' mi Pf pc nRB := by
  subst hq
  intro cc rc hc hr als ast M r hh mt hmt dep hdep p e R s m args below meth c H locs cells slots Q A ρ tys ls st C hR hL hS hu hv K
  cases hm.symm.trans hmt
  unfold nRB at hh
  split at hh
  · rename_i v
    obtain ⟨h1, hh⟩ := bK_t hh
    have h1 := Nat.le_of_ble_eq_true h1
    have hh := sj hh
    subst hh
    obtain ⟨v0, vs, rfl, hr0, hS0⟩ := F2_cons hS
    rw [F2_nil hS0, show v0 = .int (nI v) from hr0]
    refine K _ _ (hP _ _) ρ tys H locs pc ls _ cells slots ExtP.rf hR ⟨rfl, ?_, hI.1⟩ (Nat.le_add_right _ _) (Nat.le_add_right _ _)
    rw [hrt]
    rcases Nat.le_one_iff_eq_zero_or_eq_one.mp h1 with rfl | rfl <;> rfl
  · cases hh
theorem k_vo (hm : TB[mi]? = some (md, tl)) (hI : IOK WB AD SR FW TB md pc (.return_, x, y, z, fk)) (hP : ∀ t M, Pf (t, M) t M) (hq : q = q') : SOKN l g D sl h u q q' mi Pf pc nVo := by
  subst hq
  intro cc rc hc hr als ast M r hh mt hmt dep hdep p e R s m args below meth c H locs cells slots Q A ρ tys ls st C hR hL hS hu hv K
  cases hm.symm.trans hmt
  unfold nVo at hh
  split at hh
  · have hh := sj hh
    subst hh
    rw [F2_nil hS]
    exact K _ _ (hP _ _) ρ tys H locs pc ls _ cells slots ExtP.rf hR ⟨rfl, hI.2.1, hI.1⟩ (Nat.le_add_right _ _) (Nat.le_add_right _ _)
  · cases hh
end KP
