/-! one instruction, one rule: what is left to show behind it -/
abbrev PR (r : Nat × Nat) : Nat → Nat → Prop := fun t M' => r = (t, M')
section BR
variable {l : Launch} {g : GV} {D : va_G} {sl h u q q' mi pc pc' : Nat} {md : MD} {tl : List (Nat × IE)} {x y z : Nat} {fk : List Nat} {als als' alsC : Als} {ast ast' rest : List AV} {M M' : Nat} {P : Nat → Nat → Prop}
theorem SOKN.b {F : StepN} (hF : SOKN l g D sl h u q q' mi (fun _ => P) pc F) (h1 : ∀ (cc : CCN) (rc : KN), F cc rc pc als ast M = rc pc' als' ast' M') (k : SN l g D sl (h + 1) u q q' mi pc' als' ast' M' P) : SN l g D sl (h + 1) u q q' mi pc als ast M P := by
  let rc : KN := fun a b c d => @ite _ (a = pc' ∧ b = als' ∧ c = ast' ∧ d = M') (Classical.propDecidable _) (some (0, 0)) none
  refine hF (fun _ _ _ => none) rc (fun x als M r h => by cases h) (fun a b c d r hh => ?_) als ast M (0, 0) ?_
  · have hh : @ite _ (a = pc' ∧ b = als' ∧ c = ast' ∧ d = M') (Classical.propDecidable _) (some ((0 : Nat), (0 : Nat))) none = some r := hh
    split at hh
    · rename_i e
      obtain ⟨rfl, rfl, rfl, rfl⟩ := e
      exact k
    · cases hh
  · rw [h1]
    show @ite _ (pc' = pc' ∧ als' = als' ∧ ast' = ast' ∧ M' = M') (Classical.propDecidable _) (some ((0 : Nat), (0 : Nat))) none = some (0, 0)
    rw [if_pos ⟨rfl, rfl, rfl, rfl⟩]
/-- a plain instruction by what it does -/
theorem b_ps {ins : Instr} (hm : TB[mi]? = some (md, tl)) (hd : decode (mC md) pc = .ok (ins, ilen ins)) (hF : ps1 [] 64 (mL md) ins pc als ast = some (pc', als', ast')) (k : SN l g D sl h u q q' mi pc' als' ast' M P) : SN l g D sl h u q q' mi pc als ast M P := by
  intro mt hmt dep hdep p e R s m args below meth c H locs cells slots Q A ρ tys ls st C hR hL hS hu hv K
  cases hm.symm.trans hmt
  obtain ⟨hx, hb, hml, hts, hown, hin, hA, hAmb, hRR, hlt, hlk, htab, hret, hscr⟩ := id C
  exact ps1_ok (bnd := []) (msk := 64) hx hb (fun k q h => by cases h) (fun h => absurd h (by decide)) hL hS ins hd hF (fun ls' st' hL' hS' => k _ hmt dep hdep p e R s m args below meth c H locs cells slots Q A ρ tys ls' st' C hR hL' hS' hu hv K)
theorem b_ic {i : Int} (n : Nat) (hm : TB[mi]? = some (md, tl)) (hI : IOK WB AD SR FW TB md pc (.iconst i, x, y, z, fk)) (hn : i2n i = n) (e : pc + 1 = pc') (k : SN l g D sl h u q q' mi pc' als (.inl n :: ast) M P) : SN l g D sl h u q q' mi pc als ast M P := by
  subst hn; subst e; exact b_ps hm hI.1 rfl k
theorem bi_rng {i : Int} (hq : (decide (-128 ≤ i) && decide (i < 128)) = true) : -128 ≤ i ∧ i < 128 := by
  have h1 := and_cases hq
  exact ⟨of_decide_eq_true h1.1, of_decide_eq_true h1.2⟩
theorem si_rng {i : Int} (hq : (decide (-32768 ≤ i) && decide (i < 32768)) = true) : -32768 ≤ i ∧ i < 32768 := by
  have h1 := and_cases hq
  exact ⟨of_decide_eq_true h1.1, of_decide_eq_true h1.2⟩
theorem b_bi {i : Int} (n : Nat) (hm : TB[mi]? = some (md, tl)) (hI : IOK WB AD SR FW TB md pc (.bipush i, x, y, z, fk)) (hq : (decide (-128 ≤ i) && decide (i < 128)) = true) (hn : i2n i = n) (e : pc + 2 = pc') (k : SN l g D sl h u q q' mi pc' als (.inl n :: ast) M P) : SN l g D sl h u q q' mi pc als ast M P := by
  subst hn; subst e
  refine b_ps hm hI.1 ?_ k
  obtain ⟨h1, h2⟩ := bi_rng hq
  show (if -128 ≤ i then (if i < 128 then some (pc + 2, als, (.inl (i2n i) : AV) :: ast) else none) else none) = _
  rw [if_pos h1, if_pos h2]
theorem b_si {i : Int} (n : Nat) (hm : TB[mi]? = some (md, tl)) (hI : IOK WB AD SR FW TB md pc (.sipush i, x, y, z, fk)) (hq : (decide (-32768 ≤ i) && decide (i < 32768)) = true) (hn : i2n i = n) (e : pc + 3 = pc') (k : SN l g D sl h u q q' mi pc' als (.inl n :: ast) M P) : SN l g D sl h u q q' mi pc als ast M P := by
  subst hn; subst e
  refine b_ps hm hI.1 ?_ k
  obtain ⟨h1, h2⟩ := si_rng hq
  show (if -32768 ≤ i then (if i < 32768 then some (pc + 3, als, (.inl (i2n i) : AV) :: ast) else none) else none) = _
  rw [if_pos h1, if_pos h2]
theorem pld_t {i n : Nat} {ok : AV → Bool} {a : AV} (h1 : llk als i = some a) (h2 : ok a = true) : pld als i n ast ok = some (n, als, a :: ast) := by
  unfold pld; rw [h1]; simp only [h2]
theorem b_il {i : Nat} {a : AV} (hm : TB[mi]? = some (md, tl)) (hI : IOK WB AD SR FW TB md pc (.iload i, x, y, z, fk)) (h1 : llk als i = some a) (h2 : isI a = true) (e : pc + 2 = pc') (k : SN l g D sl h u q q' mi pc' als (a :: ast) M P) : SN l g D sl h u q q' mi pc als ast M P := by
  subst e; exact b_ps hm hI.1 (pld_t h1 h2) k
theorem b_iln {i : Fin 4} {a : AV} (hm : TB[mi]? = some (md, tl)) (hI : IOK WB AD SR FW TB md pc (.iload_n i, x, y, z, fk)) (h1 : llk als i.val = some a) (h2 : isI a = true) (e : pc + 1 = pc') (k : SN l g D sl h u q q' mi pc' als (a :: ast) M P) : SN l g D sl h u q q' mi pc als ast M P := by
  subst e; exact b_ps hm hI.1 (pld_t h1 h2) k
theorem b_al {i : Nat} {a : AV} (hm : TB[mi]? = some (md, tl)) (hI : IOK WB AD SR FW TB md pc (.aload i, x, y, z, fk)) (h1 : llk als i = some a) (h2 : isRN a = true) (e : pc + 2 = pc') (k : SN l g D sl h u q q' mi pc' als (a :: ast) M P) : SN l g D sl h u q q' mi pc als ast M P := by
  subst e; exact b_ps hm hI.1 (pld_t h1 h2) k
theorem b_aln {i : Fin 4} {a : AV} (hm : TB[mi]? = some (md, tl)) (hI : IOK WB AD SR FW TB md pc (.aload_n i, x, y, z, fk)) (h1 : llk als i.val = some a) (h2 : isRN a = true) (e : pc + 1 = pc') (k : SN l g D sl h u q q' mi pc' als (a :: ast) M P) : SN l g D sl h u q q' mi pc als ast M P := by
  subst e; exact b_ps hm hI.1 (pld_t h1 h2) k
theorem pst_t {nL i n : Nat} {ok : AV → Bool} {a : AV} (h2 : ok a = true) (h3 : Nat.blt i nL = true) : pst nL als i n (a :: ast) ok = some (n, lst als i a, ast) := by
  unfold pst
  simp only [h2]
  rw [if_pos (show i < nL from Nat.le_of_ble_eq_true h3)]
theorem b_st {i : Nat} {a : AV} (als' : Als) (hm : TB[mi]? = some (md, tl)) (hI : IOK WB AD SR FW TB md pc (.istore i, x, y, z, fk)) (h2 : isI a = true) (h3 : Nat.blt i (mL md) = true) (h1 : lst als i a = als') (e : pc + 2 = pc') (k : SN l g D sl h u q q' mi pc' als' ast M P) : SN l g D sl h u q q' mi pc als (a :: ast) M P := by
  subst e; subst h1; exact b_ps hm hI.1 (pst_t h2 h3) k
theorem b_stn {i : Fin 4} {a : AV} (als' : Als) (hm : TB[mi]? = some (md, tl)) (hI : IOK WB AD SR FW TB md pc (.istore_n i, x, y, z, fk)) (h2 : isI a = true) (h3 : Nat.blt i.val (mL md) = true) (h1 : lst als i.val a = als') (e : pc + 1 = pc') (k : SN l g D sl h u q q' mi pc' als' ast M P) : SN l g D sl h u q q' mi pc als (a :: ast) M P := by
  subst e; subst h1; exact b_ps hm hI.1 (pst_t h2 h3) k
theorem b_as {i : Nat} {a : AV} (als' : Als) (hm : TB[mi]? = some (md, tl)) (hI : IOK WB AD SR FW TB md pc (.astore i, x, y, z, fk)) (h2 : isRN a = true) (h3 : Nat.blt i (mL md) = true) (h1 : lst als i a = als') (e : pc + 2 = pc') (k : SN l g D sl h u q q' mi pc' als' ast M P) : SN l g D sl h u q q' mi pc als (a :: ast) M P := by
  subst e; subst h1; exact b_ps hm hI.1 (pst_t h2 h3) k
theorem b_asn {i : Fin 4} {a : AV} (als' : Als) (hm : TB[mi]? = some (md, tl)) (hI : IOK WB AD SR FW TB md pc (.astore_n i, x, y, z, fk)) (h2 : isRN a = true) (h3 : Nat.blt i.val (mL md) = true) (h1 : lst als i.val a = als') (e : pc + 1 = pc') (k : SN l g D sl h u q q' mi pc' als' ast M P) : SN l g D sl h u q q' mi pc als (a :: ast) M P := by
  subst e; subst h1; exact b_ps hm hI.1 (pst_t h2 h3) k
theorem b_inc {i v n : Nat} {cst : Int} (als' : Als) (hm : TB[mi]? = some (md, tl)) (hI : IOK WB AD SR FW TB md pc (.iinc i cst, x, y, z, fk)) (h1 : llk als i = some (.inl v)) (hn : i2n cst = n) (h3 : Nat.blt i (mL md) = true) (h4 : lst als i (.inl (oAdd v n)) = als') (e : pc + 3 = pc') (k : SN l g D sl h u q q' mi pc' als' ast M P) : SN l g D sl h u q q' mi pc als ast M P := by
  subst e; subst h4; subst hn
  refine b_ps hm hI.1 ?_ k
  show (match (generalizing := false) llk als i with
    | some (.inl n) => if i < mL md then some (pc + 3, lst als i (.inl ((n + i2n cst) % 4294967296)), ast) else none
    | _ => none) = _
  rw [h1]
  show (if i < mL md then _ else _) = _
  rw [if_pos (show i < mL md from Nat.le_of_ble_eq_true h3)]
  rfl
theorem b_bin {ins : Instr} {f : Nat → Nat → Nat} {a b : Nat} (hm : TB[mi]? = some (md, tl)) (hd : decode (mC md) pc = .ok (ins, ilen ins)) (hf : ps1 [] 64 (mL md) ins pc als (.inl b :: .inl a :: ast) = some (pc + 1, als, .inl (f a b) :: ast)) (e : pc + 1 = pc') (k : SN l g D sl h u q q' mi pc' als (.inl (f a b) :: ast) M P) : SN l g D sl h u q q' mi pc als (.inl b :: .inl a :: ast) M P := by
  subst e; exact b_ps hm hd hf k
theorem b_add {a b : Nat} (hm : TB[mi]? = some (md, tl)) (hI : IOK WB AD SR FW TB md pc (.iadd, x, y, z, fk)) (e : pc + 1 = pc') (k : SN l g D sl h u q q' mi pc' als (.inl (oAdd a b) :: ast) M P) : SN l g D sl h u q q' mi pc als (.inl b :: .inl a :: ast) M P := b_bin hm hI.1 rfl e k
theorem b_sub {a b : Nat} (hm : TB[mi]? = some (md, tl)) (hI : IOK WB AD SR FW TB md pc (.isub, x, y, z, fk)) (e : pc + 1 = pc') (k : SN l g D sl h u q q' mi pc' als (.inl (oSub a b) :: ast) M P) : SN l g D sl h u q q' mi pc als (.inl b :: .inl a :: ast) M P := b_bin hm hI.1 rfl e k
theorem b_mul {a b : Nat} (hm : TB[mi]? = some (md, tl)) (hI : IOK WB AD SR FW TB md pc (.imul, x, y, z, fk)) (e : pc + 1 = pc') (k : SN l g D sl h u q q' mi pc' als (.inl (oMul a b) :: ast) M P) : SN l g D sl h u q q' mi pc als (.inl b :: .inl a :: ast) M P := b_bin hm hI.1 rfl e k
theorem b_or {a b : Nat} (hm : TB[mi]? = some (md, tl)) (hI : IOK WB AD SR FW TB md pc (.ior, x, y, z, fk)) (e : pc + 1 = pc') (k : SN l g D sl h u q q' mi pc' als (.inl (oOr a b) :: ast) M P) : SN l g D sl h u q q' mi pc als (.inl b :: .inl a :: ast) M P := b_bin hm hI.1 rfl e k
theorem b_xor {a b : Nat} (hm : TB[mi]? = some (md, tl)) (hI : IOK WB AD SR FW TB md pc (.ixor, x, y, z, fk)) (e : pc + 1 = pc') (k : SN l g D sl h u q q' mi pc' als (.inl (oXor a b) :: ast) M P) : SN l g D sl h u q q' mi pc als (.inl b :: .inl a :: ast) M P := b_bin hm hI.1 rfl e k
theorem b_and {a b : Nat} (hm : TB[mi]? = some (md, tl)) (hI : IOK WB AD SR FW TB md pc (.iand, x, y, z, fk)) (e : pc + 1 = pc') (k : SN l g D sl (h + 1) u q q' mi pc' als (.inl (oAnd a b) :: ast) M P) : SN l g D sl (h + 1) u q q' mi pc als (.inl b :: .inl a :: ast) M P := by
  subst e; exact SOKN.b (k_iand hm hI) (fun _ _ => rfl) k
theorem b_shl {a b : Nat} (hm : TB[mi]? = some (md, tl)) (hI : IOK WB AD SR FW TB md pc (.ishl, x, y, z, fk)) (e : pc + 1 = pc') (k : SN l g D sl (h + 1) u q q' mi pc' als (.inl (oShl a b) :: ast) M P) : SN l g D sl (h + 1) u q q' mi pc als (.inl b :: .inl a :: ast) M P := by
  subst e; exact SOKN.b (k_ishl hm hI) (fun _ _ => rfl) k
theorem b_ushr {a b : Nat} (hm : TB[mi]? = some (md, tl)) (hI : IOK WB AD SR FW TB md pc (.iushr, x, y, z, fk)) (e : pc + 1 = pc') (k : SN l g D sl (h + 1) u q q' mi pc' als (.inl (oUshr a b) :: ast) M P) : SN l g D sl (h + 1) u q q' mi pc als (.inl b :: .inl a :: ast) M P := by
  subst e; exact SOKN.b (k_iushr hm hI) (fun _ _ => rfl) k
def oNeg (a : Nat) : Nat := Nat.mod (Nat.sub 4294967296 (Nat.mod a 4294967296)) 4294967296
def oShr (a b : Nat) : Nat := Nat.shiftRight a (Nat.mod b 32)
theorem b_neg {a : Nat} (hm : TB[mi]? = some (md, tl)) (hI : IOK WB AD SR FW TB md pc (.ineg, x, y, z, fk)) (e : pc + 1 = pc') (k : SN l g D sl h u q q' mi pc' als (.inl (oNeg a) :: ast) M P) : SN l g D sl h u q q' mi pc als (.inl a :: ast) M P := by
  subst e; exact b_ps hm hI.1 rfl k
theorem b_shr {a b v : Nat} (hm : TB[mi]? = some (md, tl)) (hI : IOK WB AD SR FW TB md pc (.ishr, x, y, z, fk)) (h1 : Nat.ble (Nat.add a 1) 2147483648 = true) (hw : oShr a b = v) (e : pc + 1 = pc') (k : SN l g D sl (h + 1) u q q' mi pc' als (.inl v :: ast) M P) : SN l g D sl (h + 1) u q q' mi pc als (.inl b :: .inl a :: ast) M P := by
  subst e; subst hw
  refine SOKN.b (k_ishr hm hI) (fun _ _ => ?_) k
  show bK (Nat.ble (Nat.add a 1) 2147483648) _ none = _
  rw [h1]
  rfl
theorem b_div {a b v : Nat} (hm : TB[mi]? = some (md, tl)) (hI : IOK WB AD SR FW TB md pc (.idiv, x, y, z, fk)) (h1 : Nat.ble (Nat.add a 1) 2147483648 = true) (h2 : Nat.ble (Nat.add b 1) 2147483648 = true) (h3 : Nat.ble 1 b = true) (hw : Nat.div a b = v) (e : pc + 1 = pc') (k : SN l g D sl (h + 1) u q q' mi pc' als (.inl v :: ast) M P) : SN l g D sl (h + 1) u q q' mi pc als (.inl b :: .inl a :: ast) M P := by
  subst e; subst hw
  refine SOKN.b (k_idiv hm hI) (fun _ _ => ?_) k
  show bK (Nat.ble (Nat.add a 1) 2147483648) (bK (Nat.ble (Nat.add b 1) 2147483648) (bK (Nat.ble 1 b) _ none) none) none = _
  rw [h1, h2, h3]
  rfl
theorem b_rem {a b v : Nat} (hm : TB[mi]? = some (md, tl)) (hI : IOK WB AD SR FW TB md pc (.irem, x, y, z, fk)) (h1 : Nat.ble (Nat.add a 1) 2147483648 = true) (h2 : Nat.ble (Nat.add b 1) 2147483648 = true) (h3 : Nat.ble 1 b = true) (hw : Nat.mod a b = v) (e : pc + 1 = pc') (k : SN l g D sl (h + 1) u q q' mi pc' als (.inl v :: ast) M P) : SN l g D sl (h + 1) u q q' mi pc als (.inl b :: .inl a :: ast) M P := by
  subst e; subst hw
  refine SOKN.b (k_irem hm hI) (fun _ _ => ?_) k
  show bK (Nat.ble (Nat.add a 1) 2147483648) (bK (Nat.ble (Nat.add b 1) 2147483648) (bK (Nat.ble 1 b) _ none) none) none = _
  rw [h1, h2, h3]
  rfl
theorem b_dup {a : AV} (hm : TB[mi]? = some (md, tl)) (hI : IOK WB AD SR FW TB md pc (.dup, x, y, z, fk)) (h1 : Nat.beq (acat a) 1 = true) (e : pc + 1 = pc') (k : SN l g D sl h u q q' mi pc' als (a :: a :: ast) M P) : SN l g D sl h u q q' mi pc als (a :: ast) M P := by
  subst e
  refine b_ps hm hI.1 ?_ k
  show (match Nat.beq (acat a) 1 with
        | true => some (pc + 1, als, a :: a :: ast)
        | false => none) = _
  rw [h1]
theorem b_dupx {a b : AV} (hm : TB[mi]? = some (md, tl)) (hI : IOK WB AD SR FW TB md pc (.dup_x1, x, y, z, fk)) (h1 : (Nat.beq (acat a) 1 && Nat.beq (acat b) 1) = true) (e : pc + 1 = pc') (k : SN l g D sl h u q q' mi pc' als (a :: b :: a :: ast) M P) : SN l g D sl h u q q' mi pc als (a :: b :: ast) M P := by
  subst e
  refine b_ps hm hI.1 ?_ k
  show (match Nat.beq (acat a) 1 && Nat.beq (acat b) 1 with
        | true => some (pc + 1, als, a :: b :: a :: ast)
        | false => none) = _
  rw [h1]
theorem b_dup2 {a b : AV} (hm : TB[mi]? = some (md, tl)) (hI : IOK WB AD SR FW TB md pc (.dup2, x, y, z, fk)) (h1 : (Nat.beq (acat a) 1 && Nat.beq (acat b) 1) = true) (e : pc + 1 = pc') (k : SN l g D sl h u q q' mi pc' als (a :: b :: a :: b :: ast) M P) : SN l g D sl h u q q' mi pc als (a :: b :: ast) M P := by
  subst e
  refine b_ps hm hI.1 ?_ k
  show (match Nat.beq (acat a) 1 && Nat.beq (acat b) 1 with
        | true => some (pc + 1, als, a :: b :: a :: b :: ast)
        | false => none) = _
  rw [h1]
theorem b_pop {a : AV} (hm : TB[mi]? = some (md, tl)) (hI : IOK WB AD SR FW TB md pc (.pop, x, y, z, fk)) (h1 : Nat.beq (acat a) 1 = true) (e : pc + 1 = pc') (k : SN l g D sl h u q q' mi pc' als ast M P) : SN l g D sl h u q q' mi pc als (a :: ast) M P := by
  subst e
  refine b_ps hm hI.1 ?_ k
  show (match Nat.beq (acat a) 1 with
        | true => some (pc + 1, als, ast)
        | false => none) = _
  rw [h1]
theorem b_goto {o : Int} (hm : TB[mi]? = some (md, tl)) (hI : IOK WB AD SR FW TB md pc (.goto o, x, y, z, fk)) (ht : tgt pc o = some pc') (k : SN l g D sl h u q q' mi pc' als ast M P) : SN l g D sl h u q q' mi pc als ast M P := b_ps hm hI.1 (jmp_t (len := 3) ht) k
theorem b_ifT {t a : Nat} {c : Jvm.ClassFile.Cond} {o : Int} (hm : TB[mi]? = some (md, tl)) (hI : IOK WB AD SR FW TB md pc (.ifCond c o, x, y, z, fk)) (ht : tgt pc o = some t) (h1 : cZ c a = true) (k : SN l g D sl h u q q' mi t als ast M P) : SN l g D sl h u q q' mi pc als (.inl a :: ast) M P := by
  refine b_ps hm hI.1 ?_ k
  show jmp (cmp2 [] c (.inl a) (.inl 0)) pc 3 o als ast = _
  rw [cmp2_cZ, h1]
  exact jmp_t ht
theorem b_ifF {t a : Nat} {c : Jvm.ClassFile.Cond} {o : Int} (hm : TB[mi]? = some (md, tl)) (hI : IOK WB AD SR FW TB md pc (.ifCond c o, x, y, z, fk)) (ht : tgt pc o = some t) (h1 : cZ c a = false) (e : pc + 3 = pc') (k : SN l g D sl h u q q' mi pc' als ast M P) : SN l g D sl h u q q' mi pc als (.inl a :: ast) M P := by
  subst e
  refine b_ps hm hI.1 ?_ k
  show jmp (cmp2 [] c (.inl a) (.inl 0)) pc 3 o als ast = _
  rw [cmp2_cZ, h1]
  exact jmp_f ht
theorem b_icT {t a b : Nat} {c : Jvm.ClassFile.Cond} {o : Int} (hm : TB[mi]? = some (md, tl)) (hI : IOK WB AD SR FW TB md pc (.if_icmp c o, x, y, z, fk)) (ht : tgt pc o = some t) (h1 : cN c a b = true) (k : SN l g D sl h u q q' mi t als ast M P) : SN l g D sl h u q q' mi pc als (.inl b :: .inl a :: ast) M P := by
  refine b_ps hm hI.1 ?_ k
  show jmp (cmp2 [] c (.inl a) (.inl b)) pc 3 o als ast = _
  rw [cmp2_cN, h1]
  exact jmp_t ht
theorem b_icF {t a b : Nat} {c : Jvm.ClassFile.Cond} {o : Int} (hm : TB[mi]? = some (md, tl)) (hI : IOK WB AD SR FW TB md pc (.if_icmp c o, x, y, z, fk)) (ht : tgt pc o = some t) (h1 : cN c a b = false) (e : pc + 3 = pc') (k : SN l g D sl h u q q' mi pc' als ast M P) : SN l g D sl h u q q' mi pc als (.inl b :: .inl a :: ast) M P := by
  subst e
  refine b_ps hm hI.1 ?_ k
  show jmp (cmp2 [] c (.inl a) (.inl b)) pc 3 o als ast = _
  rw [cmp2_cN, h1]
  exact jmp_f ht
theorem b_ldc {idx n : Nat} (hm : TB[mi]? = some (md, tl)) (hI : IOK WB AD SR FW TB md pc (.ldc idx, n, y, z, fk)) (e : pc + 2 = pc') (k : SN l g D sl (h + 1) u q q' mi pc' als (.inl n :: ast) M P) : SN l g D sl (h + 1) u q q' mi pc als ast M P := by
  subst e; exact SOKN.b (k_ldc hm hI) (fun _ _ => rfl) k
theorem b_ldcw {idx n : Nat} (hm : TB[mi]? = some (md, tl)) (hI : IOK WB AD SR FW TB md pc (.ldc_w idx, n, y, z, fk)) (e : pc + 3 = pc') (k : SN l g D sl (h + 1) u q q' mi pc' als (.inl n :: ast) M P) : SN l g D sl (h + 1) u q q' mi pc als ast M P := by
  subst e; exact SOKN.b (k_ldc_w hm hI) (fun _ _ => rfl) k
theorem rK_t {a n : Nat} {k : Nat → RN} (h : rdX M a = n + 1) : rK M a k = k n := by unfold rK; rw [h]
theorem b_gi {idx i a n : Nat} (hm : TB[mi]? = some (md, tl)) (hI : IOK WB AD SR FW TB md pc (.getfield idx, x, y, z, fk)) (hT : tabF LT i x y = some (some (.inl a))) (h1 : rdX M a = n + 1) (e : pc + 3 = pc') (k : SN l g D sl (h + 1) u q q' mi pc' als (.inl n :: ast) M P) : SN l g D sl (h + 1) u q q' mi pc als (.inr (.inr (.inl i)) :: ast) M P := by
  subst e
  refine SOKN.b (k_gi hm hI hT) (fun _ rc => ?_) k
  show bK (Nat.beq i i) (rK M a _) none = _
  rw [Nat.beq_refl, rK_t h1]
  rfl
theorem b_gr {idx i j0 : Nat} (hm : TB[mi]? = some (md, tl)) (hI : IOK WB AD SR FW TB md pc (.getfield idx, x, y, z, fk)) (hT : tabF LT i x y = some (some (.inr j0))) (e : pc + 3 = pc') (k : SN l g D sl (h + 1) u q q' mi pc' als (.inr (.inr (.inl j0)) :: ast) M P) : SN l g D sl (h + 1) u q q' mi pc als (.inr (.inr (.inl i)) :: ast) M P := by
  subst e
  refine SOKN.b (k_gr hm hI hT) (fun _ rc => ?_) k
  show bK (Nat.beq i i) _ none = _
  rw [Nat.beq_refl]
  rfl
/-- a field of which nothing is known -/
theorem b_gu {idx i a : Nat} (hm : TB[mi]? = some (md, tl)) (hI : IOK WB AD SR FW TB md pc (.getfield idx, x, y, z, fk)) (hT : tabF LT i x y = some (some (.inl a))) (e : pc + 3 = pc') (k : SN l g D sl h u q q' mi pc' als (.inr (.inr (.inr (.inr 1))) :: ast) M P) : SN l g D sl h u q q' mi pc als (.inr (.inr (.inl i)) :: ast) M P := by
  subst e
  intro mt hmt dep hdep p e R s m args below meth c H locs cells slots Q A ρ tys ls st C hR hL hS hu hv K
  cases hm.symm.trans hmt
  obtain ⟨hx, hb, hml, hts, hown, hin, hA, hAmb, hRR, hlt, hlk, htab, hret, hscr⟩ := id C
  obtain ⟨v, vs, rfl, hr1, hS1⟩ := F2_cons hS
  obtain ⟨b, hb0, rfl⟩ := hr1
  refine gn_get hx hb hts hown hI.2.1 hT hR hb0 hI.1 (fun v hv0 => ?_)
  obtain ⟨x', rfl, hx'⟩ := hv0
  exact k _ hmt dep hdep p e R s m args below meth c H locs cells slots Q A ρ tys ls _ C hR hL (F2_mk ⟨x', rfl⟩ hS1) hu hv K
theorem b_pi {idx i a v : Nat} (hm : TB[mi]? = some (md, tl)) (hI : IOK WB AD SR FW TB md pc (.putfield idx, x, y, 0, fk)) (hi : mI md = false) (hT : tabF LT i x y = some (some (.inl a))) (hw : wrX M a v = M') (e : pc + 3 = pc') (k : SN l g D sl (h + 1) u q q' mi pc' als ast M' P) : SN l g D sl (h + 1) u q q' mi pc als (.inl v :: .inr (.inr (.inl i)) :: ast) M P := by
  subst e; subst hw
  refine SOKN.b (k_pi hm hI hi hT) (fun _ rc => ?_) k
  show bK (Nat.beq i i) _ none = _
  rw [Nat.beq_refl]
  rfl
theorem b_pb {idx i a v : Nat} (hm : TB[mi]? = some (md, tl)) (hI : IOK WB AD SR FW TB md pc (.putfield idx, x, y, 1, fk)) (hi : mI md = false) (hT : tabF LT i x y = some (some (.inl a))) (h1 : Nat.ble v 1 = true) (hw : wrX M a v = M') (e : pc + 3 = pc') (k : SN l g D sl (h + 1) u q q' mi pc' als ast M' P) : SN l g D sl (h + 1) u q q' mi pc als (.inl v :: .inr (.inr (.inl i)) :: ast) M P := by
  subst e; subst hw
  refine SOKN.b (k_pb hm hI hi hT) (fun _ rc => ?_) k
  show bK (Nat.beq i i) (bK (Nat.ble v 1) _ none) none = _
  rw [Nat.beq_refl, h1]
  rfl
theorem b_ia {i len base w C hi n v : Nat} (hm : TB[mi]? = some (md, tl)) (hI : IOK WB AD SR FW TB md pc (.iaload, x, y, z, fk)) (hT : tabA LT i 0 len base w C hi = true) (h1 : Nat.ble (Nat.add n 1) w = true) (h2 : rdX M (Nat.add base n) = v + 1) (e : pc + 1 = pc') (k : SN l g D sl (h + 1) u q q' mi pc' als (.inl v :: ast) M P) : SN l g D sl (h + 1) u q q' mi pc als (.inl n :: .inr (.inr (.inl i)) :: ast) M P := by
  subst e
  refine SOKN.b (k_ia hm hI hT) (fun _ rc => ?_) k
  show bK (Nat.beq i i) (bK (Nat.ble (Nat.add n 1) w) (rK M (Nat.add base n) _) none) none = _
  rw [Nat.beq_refl, h1, rK_t h2]
  rfl
theorem b_ba {i len base w C hi n v : Nat} (hm : TB[mi]? = some (md, tl)) (hI : IOK WB AD SR FW TB md pc (.baload, x, y, z, fk)) (hT : tabA LT i 1 len base w C hi = true) (h1 : Nat.ble (Nat.add n 1) w = true) (h2 : rdX M (Nat.add base n) = v + 1) (e : pc + 1 = pc') (k : SN l g D sl (h + 1) u q q' mi pc' als (.inl v :: ast) M P) : SN l g D sl (h + 1) u q q' mi pc als (.inl n :: .inr (.inr (.inl i)) :: ast) M P := by
  subst e
  refine SOKN.b (k_ba hm hI hT) (fun _ rc => ?_) k
  show bK (Nat.beq i i) (bK (Nat.ble (Nat.add n 1) w) (rK M (Nat.add base n) _) none) none = _
  rw [Nat.beq_refl, h1, rK_t h2]
  rfl
theorem b_ia2 {i len base w C hi n v a : Nat} (hm : TB[mi]? = some (md, tl)) (hI : IOK WB AD SR FW TB md pc (.iaload, x, y, z, fk)) (hT : tabA LT i 0 len base w C hi = true) (h1 : aX base w C hi n = a + 1) (h2 : rdX M a = v + 1) (e : pc + 1 = pc') (k : SN l g D sl (h + 1) u q q' mi pc' als (.inl v :: ast) M P) : SN l g D sl (h + 1) u q q' mi pc als (.inl n :: .inr (.inr (.inl i)) :: ast) M P := by
  subst e
  refine SOKN.b (k_ia2 hm hI hT) (fun _ rc => ?_) k
  show bK (Nat.beq i i) (aK (aX base w C hi n) (fun a => rK M a _)) none = _
  rw [Nat.beq_refl, h1]
  show rK M a _ = _
  rw [rK_t h2]
theorem b_is {i len base w C hi n v : Nat} (hm : TB[mi]? = some (md, tl)) (hI : IOK WB AD SR FW TB md pc (.iastore, x, y, z, fk)) (hT : tabA LT i 0 len base w C hi = true) (h1 : Nat.ble (Nat.add n 1) w = true) (hw : wrX M (Nat.add base n) v = M') (e : pc + 1 = pc') (k : SN l g D sl (h + 1) u q q' mi pc' als ast M' P) : SN l g D sl (h + 1) u q q' mi pc als (.inl v :: .inl n :: .inr (.inr (.inl i)) :: ast) M P := by
  subst e; subst hw
  refine SOKN.b (k_is hm hI hT) (fun _ rc => ?_) k
  show bK (Nat.beq i i) (bK (Nat.ble (Nat.add n 1) w) _ none) none = _
  rw [Nat.beq_refl, h1]
  rfl
theorem b_bs {i len base w C hi n v : Nat} (hm : TB[mi]? = some (md, tl)) (hI : IOK WB AD SR FW TB md pc (.bastore, x, y, z, fk)) (hT : tabA LT i 1 len base w C hi = true) (h1 : Nat.ble (Nat.add n 1) w = true) (h2 : Nat.ble v 1 = true) (hw : wrX M (Nat.add base n) v = M') (e : pc + 1 = pc') (k : SN l g D sl (h + 1) u q q' mi pc' als ast M' P) : SN l g D sl (h + 1) u q q' mi pc als (.inl v :: .inl n :: .inr (.inr (.inl i)) :: ast) M P := by
  subst e; subst hw
  refine SOKN.b (k_bs hm hI hT) (fun _ rc => ?_) k
  show bK (Nat.beq i i) (bK (Nat.ble (Nat.add n 1) w) (bK (Nat.ble v 1) _ none) none) none = _
  rw [Nat.beq_refl, h1, h2]
  rfl
theorem b_is2 {i len base w C hi n v a : Nat} (hm : TB[mi]? = some (md, tl)) (hI : IOK WB AD SR FW TB md pc (.iastore, x, y, z, fk)) (hT : tabA LT i 0 len base w C hi = true) (h1 : aX base w C hi n = a + 1) (hw : wrX M a v = M') (e : pc + 1 = pc') (k : SN l g D sl (h + 1) u q q' mi pc' als ast M' P) : SN l g D sl (h + 1) u q q' mi pc als (.inl v :: .inl n :: .inr (.inr (.inl i)) :: ast) M P := by
  subst e; subst hw
  refine SOKN.b (k_is2 hm hI hT) (fun _ rc => ?_) k
  show bK (Nat.beq i i) (aK (aX base w C hi n) (fun a => _)) none = _
  rw [Nat.beq_refl, h1]
  rfl
theorem b_cp {idx i len base w C hi sp dp n a1 a2 : Nat} (h8 : 7 ≤ h) (hm : TB[mi]? = some (md, tl)) (hI : IOK WB AD SR FW TB md pc (.invokestatic idx, 1000, y, z, fk)) (hT : tabA LT i 0 len base w C hi = true) (h0 : Nat.ble (acats ast) 8 = true) (h1 : aS base w C hi sp n = a1 + 1) (h2 : aS base w C hi dp n = a2 + 1) (hw : cpX M a1 a2 n = M') (e : pc + 3 = pc') (k : SN l g D sl (h + 1) u q q' mi pc' als ast M' P) : SN l g D sl (h + 1) u q q' mi pc als (.inl n :: .inl dp :: .inr (.inr (.inl i)) :: .inl sp :: .inr (.inr (.inl i)) :: ast) M P := by
  subst e; subst hw
  refine SOKN.b (k_cp h8 hm hI hT) (fun _ rc => ?_) k
  show bK (Nat.beq i i) (bK (Nat.beq i i) (bK (Nat.ble (acats ast) 8) (aK (aS base w C hi sp n) (fun a => aK (aS base w C hi dp n) (fun b => _))) none) none) none = _
  rw [Nat.beq_refl, h0, h1, h2]
  rfl
/-- the length of an int row -/
theorem b_len {i k0 len base w C hi : Nat} (hm : TB[mi]? = some (md, tl)) (hI : IOK WB AD SR FW TB md pc (.arraylength, x, y, z, fk)) (hT : tabA LT i k0 len base w C hi = true) (e : pc + 1 = pc') (k : SN l g D sl h u q q' mi pc' als (.inl len :: ast) M P) : SN l g D sl h u q q' mi pc als (.inr (.inr (.inl i)) :: ast) M P := by
  subst e
  intro mt hmt dep hdep p e R s m args below meth c H locs cells slots Q A ρ tys ls st C hR hL hS hu hv K
  cases hm.symm.trans hmt
  obtain ⟨hx, hb, hml, hts, hown, hin, hA, hAmb, hRR, hlt, hlk, htab, hret, hscr⟩ := id C
  obtain ⟨hTL, hwC, hCl, hhi, hlen⟩ := tabA_in hT
  obtain ⟨v, vs, rfl, hr1, hS1⟩ := F2_cons hS
  obtain ⟨b, hb0, rfl⟩ := hr1
  obtain ⟨hK, ws, h0, h1, h2, h3, h4, h5⟩ := id hR
  obtain ⟨en, hen⟩ := ρ_at h1 hb0
  obtain ⟨cA, F9, t, ht, hf, hff⟩ := h5 i _ hen _ hTL
  have hf : en = .inl (cA, len, F9) := hf
  subst hf
  exact va_alen (D := D) (v := nI len) hx hb hK h2 i t hen ht rfl hI.1 (k _ hmt dep hdep p e R s m args below meth c H locs cells slots Q A ρ tys ls _ C hR hL (F2_mk rfl hS1) hu hv K)
theorem b_ri {v : Nat} (hm : TB[mi]? = some (md, tl)) (hI : IOK WB AD SR FW TB md pc (.ireturn, x, y, z, fk)) (hrt : mR md = some .int) (hp : P (v + 2) M) : SN l g D sl (h + 1) u q q mi pc als [.inl v] M P :=
  (k_ri (Pf := PR) (u := u) (q := q) hm hI hrt (fun _ _ => rfl) rfl (fun _ _ _ => none) (fun _ _ _ _ => none) (fun _ _ _ _ h => by cases h) (fun _ _ _ _ _ h => by cases h) als [.inl v] M (v + 2, M) rfl).post (fun t M' e => by cases e; exact hp)
theorem b_rb {v : Nat} (hm : TB[mi]? = some (md, tl)) (hI : IOK WB AD SR FW TB md pc (.ireturn, x, y, z, fk)) (hrt : mR md = some .boolean) (h1 : Nat.ble v 1 = true) (hp : P (v + 2) M) : SN l g D sl (h + 1) u q q mi pc als [.inl v] M P :=
  (k_rb (Pf := PR) (u := u) (q := q) hm hI hrt (fun _ _ => rfl) rfl (fun _ _ _ => none) (fun _ _ _ _ => none) (fun _ _ _ _ h => by cases h) (fun _ _ _ _ _ h => by cases h) als [.inl v] M (v + 2, M) (by show bK (Nat.ble v 1) _ none = _; rw [h1]; rfl)).post (fun t M' e => by cases e; exact hp)
theorem b_vo (hm : TB[mi]? = some (md, tl)) (hI : IOK WB AD SR FW TB md pc (.return_, x, y, z, fk)) (hp : P 1 M) : SN l g D sl (h + 1) u q q mi pc als [] M P :=
  (k_vo (Pf := PR) (u := u) (q := q) hm hI (fun _ _ => rfl) rfl (fun _ _ _ => none) (fun _ _ _ _ => none) (fun _ _ _ _ h => by cases h) (fun _ _ _ _ _ h => by cases h) als [] M (1, M) rfl).post (fun t M' e => by cases e; exact hp)
/-- calls by what they come to -/
theorem b_vI {idx np v M1 h' : Nat} {mu : MT} {o : RN} (hm : TB[mi]? = some (md, tl)) (hI : IOK WB AD SR FW TB md pc (.invokevirtual idx, x, y, z, fk)) (hmu : TB[x]? = some mu) (hM : MOK WB mu.1) (hx0 : x ≠ 0) (hnp : np = mN mu.1) (hca : calN 1 y np ast = true) (ho : o = some (v + 2, M1)) (hcal : ∀ r, o = some r → SN l g D sl h' 0 q q x 0 alsC [] M (PR r)) (hh : h' ≤ h) (ha : aargs 0 (ast.take np).reverse = alsC) (hr : ast.drop np = rest) (e : pc + 3 = pc') (k : SN l g D sl (h + 1) u q q' mi pc' als (.inl v :: rest) M1 P) : SN l g D sl (h + 1) u q q' mi pc als ast M P := by
  subst e; subst ha; subst hr
  have := p_vi (u1 := 0) (u2 := u) (P := P) (q' := q') (als := als) hm hI hmu hM hx0 hnp hca (Nat.le_refl q) ((hcal _ ho).hup hh) (fun t M' h9 => by cases h9; exact Nat.succ_ne_zero _) (fun t M' h9 => by cases h9; exact k)
  rw [Nat.zero_add] at this
  exact this
theorem b_vV {idx np M1 h' : Nat} {mu : MT} {o : RN} (hm : TB[mi]? = some (md, tl)) (hI : IOK WB AD SR FW TB md pc (.invokevirtual idx, x, y, z, fk)) (hmu : TB[x]? = some mu) (hM : MOK WB mu.1) (hx0 : x ≠ 0) (hnp : np = mN mu.1) (hca : calN 1 y np ast = true) (ho : o = some (1, M1)) (hcal : ∀ r, o = some r → SN l g D sl h' 0 q q x 0 alsC [] M (PR r)) (hh : h' ≤ h) (ha : aargs 0 (ast.take np).reverse = alsC) (hr : ast.drop np = rest) (e : pc + 3 = pc') (k : SN l g D sl (h + 1) u q q' mi pc' als rest M1 P) : SN l g D sl (h + 1) u q q' mi pc als ast M P := by
  subst e; subst ha; subst hr
  have := p_vi (u1 := 0) (u2 := u) (P := P) (q' := q') (als := als) hm hI hmu hM hx0 hnp hca (Nat.le_refl q) ((hcal _ ho).hup hh) (fun t M' h9 => by cases h9; exact Nat.succ_ne_zero _) (fun t M' h9 => by cases h9; exact k)
  rw [Nat.zero_add] at this
  exact this
theorem b_sI {idx np v M1 h' : Nat} {mu : MT} {o : RN} (hm : TB[mi]? = some (md, tl)) (hI : IOK WB AD SR FW TB md pc (.invokestatic idx, x, y, z, fk)) (hmu : TB[x]? = some mu) (hM : MOK WB mu.1) (hx0 : x ≠ 0) (hnp : np = mN mu.1) (hca : calN 0 y np ast = true) (ho : o = some (v + 2, M1)) (hcal : ∀ r, o = some r → SN l g D sl h' 0 q q x 0 alsC [] M (PR r)) (hh : h' ≤ h) (ha : aargs 0 (ast.take np).reverse = alsC) (hr : ast.drop np = rest) (e : pc + 3 = pc') (k : SN l g D sl (h + 1) u q q' mi pc' als (.inl v :: rest) M1 P) : SN l g D sl (h + 1) u q q' mi pc als ast M P := by
  subst e; subst ha; subst hr
  have := p_st (u1 := 0) (u2 := u) (P := P) (q' := q') (als := als) hm hI hmu hM hx0 hnp hca (Nat.le_refl q) ((hcal _ ho).hup hh) (fun t M' h9 => by cases h9; exact Nat.succ_ne_zero _) (fun t M' h9 => by cases h9; exact k)
  rw [Nat.zero_add] at this
  exact this
theorem b_sV {idx np M1 h' : Nat} {mu : MT} {o : RN} (hm : TB[mi]? = some (md, tl)) (hI : IOK WB AD SR FW TB md pc (.invokestatic idx, x, y, z, fk)) (hmu : TB[x]? = some mu) (hM : MOK WB mu.1) (hx0 : x ≠ 0) (hnp : np = mN mu.1) (hca : calN 0 y np ast = true) (ho : o = some (1, M1)) (hcal : ∀ r, o = some r → SN l g D sl h' 0 q q x 0 alsC [] M (PR r)) (hh : h' ≤ h) (ha : aargs 0 (ast.take np).reverse = alsC) (hr : ast.drop np = rest) (e : pc + 3 = pc') (k : SN l g D sl (h + 1) u q q' mi pc' als rest M1 P) : SN l g D sl (h + 1) u q q' mi pc als ast M P := by
  subst e; subst ha; subst hr
  have := p_st (u1 := 0) (u2 := u) (P := P) (q' := q') (als := als) hm hI hmu hM hx0 hnp hca (Nat.le_refl q) ((hcal _ ho).hup hh) (fun t M' h9 => by cases h9; exact Nat.succ_ne_zero _) (fun t M' h9 => by cases h9; exact k)
  rw [Nat.zero_add] at this
  exact this
def subA : Als → Als → Prop
  | [], _ => True
  | q :: l, als => llk als q.1 = some q.2 ∧ subA l als
theorem subA_in {a b : Als} (h : subA a b) : ∀ q ∈ a, llk b q.1 = some q.2 := by
  induction a with
  | nil => intro q hq; cases hq
  | cons x l ih =>
    have h : llk b x.1 = some x.2 ∧ subA l b := h
    intro q hq
    rcases List.mem_cons.mp hq with rfl | hq
    · exact h.1
    · exact ih h.2 q hq
theorem b_sub9 (als' : Als) (hs : subA als' als) (k : SN l g D sl h u q q' mi pc als' ast M P) : SN l g D sl h u q q' mi pc als ast M P := k.sub (subA_in hs)
end BR
/-! trees: what a method comes to, with joints and loops -/
def jn {α : Type} (jb : α) (mb : α → RN) : RN := mb jb
noncomputable def lp {α : Type} (bot : α) (st : α → α) (mb : α → RN) : RN := mb (@Nat.rec (fun _ => α) bot (fun _ ih => st ih) 4000)
theorem jn_in {α : Type} {jb : α} {mb : α → RN} {r : Nat × Nat} (R : α → Prop) {G : Prop} (h : jn jb mb = some r) (h1 : R jb) (h2 : ∀ j, R j → mb j = some r → G) : G := h2 jb h1 h
theorem lp_in {α : Type} {bot : α} {st : α → α} {mb : α → RN} {r : Nat × Nat} (R : α → Prop) {G : Prop} (h : lp bot st mb = some r) (h0 : R bot) (h1 : ∀ ih, R ih → R (st ih)) (h2 : ∀ j, R j → mb j = some r → G) : G := by
  refine h2 _ ?_ h
  have key : ∀ n : Nat, R (@Nat.rec (fun _ => α) bot (fun _ ih => st ih) n) := by
    intro n
    induction n with
    | zero => exact h0
    | succ n ih => exact h1 _ ih
  exact key 4000
noncomputable def lK (M base w n : Nat) (k : Nat → RN) : RN := bK (Nat.ble (Nat.add n 1) w) (rK M (Nat.add base n) k) none
noncomputable def lK2 (M base w C hi n : Nat) (k : Nat → RN) : RN := aK (aX base w C hi n) (fun a => rK M a k)
noncomputable def sK (M base w n v : Nat) (k : Nat → RN) : RN := bK (Nat.ble (Nat.add n 1) w) (fK (wrX M (Nat.add base n) v) k) none
noncomputable def sK2 (M base w C hi n v : Nat) (k : Nat → RN) : RN := aK (aX base w C hi n) (fun a => fK (wrX M a v) k)
noncomputable def sBK (M base w n v : Nat) (k : Nat → RN) : RN := bK (Nat.ble (Nat.add n 1) w) (bK (Nat.ble v 1) (fK (wrX M (Nat.add base n) v) k) none) none
noncomputable def pK (M a v : Nat) (k : Nat → RN) : RN := fK (wrX M a v) k
noncomputable def pBK (M a v : Nat) (k : Nat → RN) : RN := bK (Nat.ble v 1) (fK (wrX M a v) k) none
noncomputable def cpK (M base w C hi sp dp n : Nat) (k : Nat → RN) : RN := aK (aS base w C hi sp n) (fun a => aK (aS base w C hi dp n) (fun b => fK (cpX M a b n) k))
noncomputable def dvK (f : Nat → Nat → Nat) (a b : Nat) (k : Nat → RN) : RN := bK (Nat.ble (Nat.add a 1) 2147483648) (bK (Nat.ble (Nat.add b 1) 2147483648) (bK (Nat.ble 1 b) (fK (f a b) k) none) none) none
noncomputable def hK (a b : Nat) (k : Nat → RN) : RN := bK (Nat.ble (Nat.add a 1) 2147483648) (fK (oShr a b) k) none
noncomputable def uK (M a : Nat) (k : Nat → RN) (o : RN) : RN := @Nat.rec (fun _ => RN) o (fun n _ => k n) (rdX M a)
theorem lK_in {M base w n : Nat} {k : Nat → RN} {r : Nat × Nat} (h : lK M base w n k = some r) : ∃ v, Nat.ble (Nat.add n 1) w = true ∧ rdX M (Nat.add base n) = v + 1 ∧ k v = some r := by
  obtain ⟨h1, h2⟩ := bK_t h
  obtain ⟨v, h3, h4⟩ := rK_in h2
  exact ⟨v, h1, h3, h4⟩
theorem lK2_in {M base w C hi n : Nat} {k : Nat → RN} {r : Nat × Nat} (h : lK2 M base w C hi n k = some r) : ∃ v a, aX base w C hi n = a + 1 ∧ rdX M a = v + 1 ∧ k v = some r := by
  obtain ⟨a, h1, h2⟩ := aK_in h
  obtain ⟨v, h3, h4⟩ := rK_in h2
  exact ⟨v, a, h1, h3, h4⟩
theorem fK_v {e : Nat} {k : Nat → RN} {r : Nat × Nat} (h : fK e k = some r) : ∃ v, e = v ∧ k v = some r := ⟨e, rfl, h⟩
theorem sK_in {M base w n v : Nat} {k : Nat → RN} {r : Nat × Nat} (h : sK M base w n v k = some r) : ∃ M', Nat.ble (Nat.add n 1) w = true ∧ wrX M (Nat.add base n) v = M' ∧ k M' = some r := by
  obtain ⟨h1, h2⟩ := bK_t h
  exact ⟨_, h1, rfl, h2⟩
theorem sK2_in {M base w C hi n v : Nat} {k : Nat → RN} {r : Nat × Nat} (h : sK2 M base w C hi n v k = some r) : ∃ M' a, aX base w C hi n = a + 1 ∧ wrX M a v = M' ∧ k M' = some r := by
  obtain ⟨a, h1, h2⟩ := aK_in h
  exact ⟨_, a, h1, rfl, h2⟩
theorem sBK_in {M base w n v : Nat} {k : Nat → RN} {r : Nat × Nat} (h : sBK M base w n v k = some r) : ∃ M', Nat.ble (Nat.add n 1) w = true ∧ Nat.ble v 1 = true ∧ wrX M (Nat.add base n) v = M' ∧ k M' = some r := by
  obtain ⟨h1, h2⟩ := bK_t h
  obtain ⟨h3, h4⟩ := bK_t h2
  exact ⟨_, h1, h3, rfl, h4⟩
theorem pK_in {M a v : Nat} {k : Nat → RN} {r : Nat × Nat} (h : pK M a v k = some r) : ∃ M', wrX M a v = M' ∧ k M' = some r := ⟨_, rfl, h⟩
theorem pBK_in {M a v : Nat} {k : Nat → RN} {r : Nat × Nat} (h : pBK M a v k = some r) : ∃ M', Nat.ble v 1 = true ∧ wrX M a v = M' ∧ k M' = some r := by
  obtain ⟨h1, h2⟩ := bK_t h
  exact ⟨_, h1, rfl, h2⟩
theorem cpK_in {M base w C hi sp dp n : Nat} {k : Nat → RN} {r : Nat × Nat} (h : cpK M base w C hi sp dp n k = some r) : ∃ M' a b, aS base w C hi sp n = a + 1 ∧ aS base w C hi dp n = b + 1 ∧ cpX M a b n = M' ∧ k M' = some r := by
  obtain ⟨a, h1, h2⟩ := aK_in h
  obtain ⟨b, h3, h4⟩ := aK_in h2
  exact ⟨_, a, b, h1, h3, rfl, h4⟩
theorem dvK_in {f : Nat → Nat → Nat} {a b : Nat} {k : Nat → RN} {r : Nat × Nat} (h : dvK f a b k = some r) : ∃ v, Nat.ble (Nat.add a 1) 2147483648 = true ∧ Nat.ble (Nat.add b 1) 2147483648 = true ∧ Nat.ble 1 b = true ∧ f a b = v ∧ k v = some r := by
  obtain ⟨h1, h2⟩ := bK_t h
  obtain ⟨h3, h4⟩ := bK_t h2
  obtain ⟨h5, h6⟩ := bK_t h4
  exact ⟨_, h1, h3, h5, rfl, h6⟩
theorem hK_in {a b : Nat} {k : Nat → RN} {r : Nat × Nat} (h : hK a b k = some r) : ∃ v, Nat.ble (Nat.add a 1) 2147483648 = true ∧ oShr a b = v ∧ k v = some r := by
  obtain ⟨h1, h2⟩ := bK_t h
  exact ⟨_, h1, rfl, h2⟩
theorem uK_in {M a : Nat} {k : Nat → RN} {o : RN} {r : Nat × Nat} (h : uK M a k o = some r) : (∃ v, rdX M a = v + 1 ∧ k v = some r) ∨ o = some r := by
  unfold uK at h
  cases e : rdX M a with
  | zero => rw [e] at h; exact Or.inr h
  | succ n => rw [e] at h; exact Or.inl ⟨n, rfl, h⟩
def zEq (a : Nat) : Bool := Nat.beq (Nat.mod a 4294967296) 0
noncomputable def zNe (a : Nat) : Bool := @Bool.rec (fun _ => Bool) true false (Nat.beq (Nat.mod a 4294967296) 0)
def zLt (a : Nat) : Bool := Nat.ble 2147483648 (Nat.mod a 4294967296)
def zGe (a : Nat) : Bool := Nat.ble (Nat.add (Nat.mod a 4294967296) 1) 2147483648
def zGt (a : Nat) : Bool := Nat.ble 2147483649 (Nat.mod (Nat.add a 2147483648) 4294967296)
def zLe (a : Nat) : Bool := Nat.ble (Nat.mod (Nat.add a 2147483648) 4294967296) 2147483648
def nEq (a b : Nat) : Bool := Nat.beq (Nat.mod a 4294967296) (Nat.mod b 4294967296)
noncomputable def nNe (a b : Nat) : Bool := @Bool.rec (fun _ => Bool) true false (Nat.beq (Nat.mod a 4294967296) (Nat.mod b 4294967296))
def nLt (a b : Nat) : Bool := Nat.ble (Nat.add (Nat.mod (Nat.add a 2147483648) 4294967296) 1) (Nat.mod (Nat.add b 2147483648) 4294967296)
def nGe (a b : Nat) : Bool := Nat.ble (Nat.mod (Nat.add b 2147483648) 4294967296) (Nat.mod (Nat.add a 2147483648) 4294967296)
def nGt (a b : Nat) : Bool := Nat.ble (Nat.add (Nat.mod (Nat.add b 2147483648) 4294967296) 1) (Nat.mod (Nat.add a 2147483648) 4294967296)
def nLe (a b : Nat) : Bool := Nat.ble (Nat.mod (Nat.add a 2147483648) 4294967296) (Nat.mod (Nat.add b 2147483648) 4294967296)
theorem not_rec (b : Bool) : @Bool.rec (fun _ => Bool) true false b = !b := by cases b <;> rfl
theorem zEq_c (a : Nat) : zEq a = cZ .eq a := rfl
theorem zNe_c (a : Nat) : zNe a = cZ .ne a := not_rec _
theorem zLt_c (a : Nat) : zLt a = cZ .lt a := rfl
theorem zGe_c (a : Nat) : zGe a = cZ .ge a := rfl
theorem zGt_c (a : Nat) : zGt a = cZ .gt a := rfl
theorem zLe_c (a : Nat) : zLe a = cZ .le a := rfl
theorem nEq_c (a b : Nat) : nEq a b = cN .eq a b := rfl
theorem nNe_c (a b : Nat) : nNe a b = cN .ne a b := not_rec _
theorem nLt_c (a b : Nat) : nLt a b = cN .lt a b := rfl
theorem nGe_c (a b : Nat) : nGe a b = cN .ge a b := rfl
theorem nGt_c (a b : Nat) : nGt a b = cN .gt a b := rfl
theorem nLe_c (a b : Nat) : nLe a b = cN .le a b := rfl
theorem bK_f {c : Bool} {f : RN} {r : Nat × Nat} (h : bK c none f = some r) : c = false ∧ f = some r := by
  cases c with
  | true => cases h
  | false => exact ⟨rfl, h⟩
noncomputable def rbK (v M : Nat) : RN := bK (Nat.ble v 1) (some (Nat.add v 2, M)) none
theorem rbK_in {v M : Nat} {r : Nat × Nat} (h : rbK v M = some r) : Nat.ble v 1 = true ∧ r = (v + 2, M) := by
  obtain ⟨h1, h2⟩ := bK_t h
  exact ⟨h1, (sj h2).symm⟩
