/-! the run of a method by numbers -/
abbrev IE : Type := Instr × Nat × Nat × Nat × List Nat
abbrev MD : Type := MethodName × ByteArray × Nat × Option FieldType × Nat × String × Bool × List (Nat × Nat × Nat × Nat × Nat)
abbrev MT : Type := MD × List (Nat × IE)
/-- the case: the symbols' bounds, the first one's low bits, the script's length -/
abbrev EV : Type := List (Nat × Nat) × Nat × Nat
abbrev Fin9 : Type := Nat × Nat × AV × List AC × Nat × Nat × Nat
def mY (d : MD) : MethodName := d.1
def mC (d : MD) : ByteArray := d.2.1
def mL (d : MD) : Nat := d.2.2.1
def mR (d : MD) : Option FieldType := d.2.2.2.1
def mN (d : MD) : Nat := d.2.2.2.2.1
def mO (d : MD) : String := d.2.2.2.2.2.1
def mI (d : MD) : Bool := d.2.2.2.2.2.2.1
def mH (d : MD) : List (Nat × Nat × Nat × Nat × Nat) := d.2.2.2.2.2.2.2
def lkp {α : Type} : List (Nat × α) → Nat → Option α
  | [], _ => none
  | q :: l, i => match Nat.beq q.1 i with
    | true => some q.2
    | false => lkp l i
theorem lkp_mem {α : Type} {l : List (Nat × α)} {i : Nat} {e : α} (h : lkp l i = some e) : (i, e) ∈ l := by
  induction l with
  | nil => cases h
  | cons q l ih =>
    unfold lkp at h
    cases hb : Nat.beq q.1 i with
    | true =>
      rw [hb] at h
      have h := sj h
      subst h
      rw [← Nat.eq_of_beq_eq_true hb]
      exact List.mem_cons_self
    | false =>
      rw [hb] at h
      exact List.mem_cons_of_mem _ (ih h)
def addu (uc us : Nat) (f : Option Fin9) : Option Fin9 :=
  match f with
  | some (rk, pc, a, ah, nt, u, v) => some (rk, pc, a, ah, nt, uc + u, us + v)
  | none => none
def aargs : Nat → List AV → Als
  | _, [] => []
  | i, v :: vs => (i, v) :: aargs (if acat v = 2 then i + 2 else i + 1) vs
def rkind (ty : FieldType) : Nat :=
  match ty with
  | .int => 0
  | .boolean => 1
  | _ => 9
def retok (r : Option FieldType) (a : AV) : Bool :=
  match r with
  | some ty => fitk (rkind ty) a
  | none => false
def acats : List AV → Nat
  | [] => 0
  | a :: l => acat a + acats l
def hfind : List (Nat × Nat × Nat × Nat × Nat) → Nat → Nat → Option Nat
  | [], _, _ => none
  | q :: l, pc, ec => match Nat.ble q.1 pc && Nat.blt pc q.2.1 with
    | true => match Nat.beq q.2.2.2.2 ec with
      | true => some q.2.2.1
      | false => match Nat.blt q.2.2.2.2 3 with
        | true => hfind l pc ec
        | false => none
    | false => hfind l pc ec
def isObj (ah : List AC) (y : Nat) (args : List AV) : Bool :=
  match args with
  | .inr (.inr (.inl i)) :: _ => match ah[i]? with
    | some (.inl o) => Nat.beq o.1 y
    | _ => false
  | _ => false
def isRv (args : List AV) : Bool :=
  match args with
  | a :: _ => isR a
  | _ => false
def rcv (vk : Nat) (ah : List AC) (y : Nat) (args : List AV) : Bool :=
  match vk with
  | 0 => true
  | 2 => isRv args
  | _ => isObj ah y args
/-! numbers and lists laid out at once, so that the kernel need not do it again and again: each of these is 'k x' -/
def fN {β : Type} (n : Nat) (k : Nat → β) : β :=
  match n with
  | 0 => k 0
  | m + 1 => k (Nat.succ m)
def fV {β : Type} (a : AV) (k : AV → β) : β :=
  match a with
  | .inl n => fN n (fun n => k (.inl n))
  | .inr (.inl n) => fN n (fun n => k (.inr (.inl n)))
  | .inr (.inr (.inl n)) => fN n (fun n => k (.inr (.inr (.inl n))))
  | .inr (.inr (.inr (.inl none))) => k (.inr (.inr (.inr (.inl none))))
  | .inr (.inr (.inr (.inl (some n)))) => fN n (fun n => k (.inr (.inr (.inr (.inl (some n))))))
  | .inr (.inr (.inr (.inr n))) => fN n (fun n => k (.inr (.inr (.inr (.inr n)))))
def fL {β : Type} : List AV → (List AV → β) → β
  | [], k => k []
  | a :: l, k => fV a (fun a' => fL l (fun l' => k (a' :: l')))
def fA {β : Type} : Als → (Als → β) → β
  | [], k => k []
  | a :: l, k => fN a.1 (fun i => fV a.2 (fun a' => fA l (fun l' => k ((i, a') :: l'))))
def fC {β : Type} (c : AC) (k : AC → β) : β :=
  match c with
  | .inl o => fN o.1 (fun i => fL o.2 (fun l => k (.inl (i, l))))
  | .inr w => match w with
    | (kind, t, len, (n, a) :: ups, d) => fN n (fun n' => fV a (fun a' => k (.inr (kind, t, len, (n', a') :: ups, d))))
    | w => k (.inr w)
def fH {β : Type} : Nat → List AC → (List AC → β) → β
  | _, [], k => k []
  | 0, c :: l, k => fC c (fun c' => k (c' :: l))
  | i + 1, c :: l, k => fH i l (fun l' => k (c :: l'))
theorem fN_eq {β : Type} (n : Nat) (k : Nat → β) : fN n k = k n := by cases n <;> rfl
theorem fV_eq {β : Type} (a : AV) (k : AV → β) : fV a k = k a := by
  match a with
  | .inl n => exact fN_eq n (fun n => k (.inl n))
  | .inr (.inl n) => exact fN_eq n (fun n => k (.inr (.inl n)))
  | .inr (.inr (.inl n)) => exact fN_eq n (fun n => k (.inr (.inr (.inl n))))
  | .inr (.inr (.inr (.inl none))) => rfl
  | .inr (.inr (.inr (.inl (some n)))) => exact fN_eq n (fun n => k (.inr (.inr (.inr (.inl (some n))))))
  | .inr (.inr (.inr (.inr n))) => exact fN_eq n (fun n => k (.inr (.inr (.inr (.inr n)))))
theorem fL_eq {β : Type} (l : List AV) (k : List AV → β) : fL l k = k l := by
  induction l generalizing k with
  | nil => rfl
  | cons a l ih =>
    show fV a (fun a' => fL l (fun l' => k (a' :: l'))) = _
    rw [fV_eq, ih]
theorem fA_eq {β : Type} (l : Als) (k : Als → β) : fA l k = k l := by
  induction l generalizing k with
  | nil => rfl
  | cons a l ih =>
    show fN a.1 (fun i => fV a.2 (fun a' => fA l (fun l' => k ((i, a') :: l')))) = _
    rw [fN_eq, fV_eq, ih]
theorem fC_eq {β : Type} (c : AC) (k : AC → β) : fC c k = k c := by
  match c with
  | .inl o =>
    show fN o.1 (fun i => fL o.2 (fun l => k (.inl (i, l)))) = _
    rw [fN_eq, fL_eq]
  | .inr (kind, t, len, (n, a) :: ups, d) =>
    show fN n (fun n' => fV a (fun a' => k (.inr (kind, t, len, (n', a') :: ups, d)))) = _
    rw [fN_eq, fV_eq]
  | .inr (kind, t, len, [], d) => rfl
theorem fH_eq {β : Type} (i : Nat) (l : List AC) (k : List AC → β) : fH i l k = k l := by
  induction l generalizing i k with
  | nil => unfold fH; rfl
  | cons c l ih =>
    cases i with
    | zero => exact fC_eq c _
    | succ i =>
      show fH i l (fun l' => k (c :: l')) = _
      rw [ih]
def ref2 (ast : List AV) : Nat :=
  match ast with
  | _ :: .inr (.inr (.inl i)) :: _ => i
  | _ => 0
def ref3 (ast : List AV) : Nat :=
  match ast with
  | _ :: _ :: .inr (.inr (.inl i)) :: _ => i
  | _ => 0
def tsw (n : Nat) (pc : Nat) (dflt lo hi : Int) (offs : Array Int) : Option Nat :=
  if (n : Int) < lo then tgt pc dflt else if hi < (n : Int) then tgt pc dflt else match offs[((n : Int) - lo).toNat]? with
    | some o => tgt pc o
    | none => none
def copyA (x : AC) (y : AC) (sp dp n : Nat) : Option AC :=
  match x, y with
  | .inr (0, _, ln, ups, d), .inr (0, t2, ln2, ups2, d2) => if sp + n ≤ ln then (if dp + n ≤ ln2 then some (.inr (0, t2, ln2, ((List.range n).map fun i => (dp + i, alk d ups (sp + i))) ++ ups2, d2)) else none) else none
  | _, _ => none
abbrev RC : Type := Nat → Nat → Nat → Als → List AV → List AC → Nat → Option Fin9
abbrev Step : Type := EV → RC → Nat → Nat → Nat → Als → List AV → List AC → Nat → Option Fin9
def aRet (r : Option FieldType) : Step := fun _ _ _ _ pc _ ast ah nt =>
  match ast with
  | [a] => match retok r a with
    | true => some (0, pc, a, ah, nt, 0, 0)
    | false => none
  | _ => none
def aVoid : Step := fun _ _ _ _ pc _ ast ah nt =>
  match ast with
  | [] => some (1, pc, .inl 0, ah, nt, 0, 0)
  | _ => none
def aARet : Step := fun _ _ _ _ pc _ ast ah nt =>
  match ast with
  | [a] => match isRN a with
    | true => some (2, pc, a, ah, nt, 0, 0)
    | false => none
  | _ => none
/-- a new stack alone -/
def aSt (len : Nat) (f : List AC → List AV → Option (List AV)) : Step := fun _ rc dep mi pc als ast ah nt =>
  match f ah ast with
  | some st => fN (pc + len) (fun pc' => fL st (fun st' => rc dep mi pc' als st' ah nt))
  | none => none
/-- a cell written -/
def aWr (len : Nat) (w : List AV → Nat) (f : List AC → List AV → Option (List AC × List AV)) : Step := fun _ rc dep mi pc als ast ah nt =>
  match f ah ast with
  | some r => fH (w ast) r.1 (fun h => fN (pc + len) (fun pc' => rc dep mi pc' als r.2 h nt))
  | none => none
/-- the script's ints -/
def scrI (ev : EV) (mi : Nat) (ast : List AV) : Option (List AV) :=
  match ast with
  | .inl j :: .inr (.inr (.inr (.inr 2))) :: rest => match mi with
    | 0 => if j < ev.2.2 then (match ev.1[j]? with
      | some b => if b.1 = b.2 then some (.inl ((b.1 + 2147483648) % 4294967296) :: rest) else some (.inr (.inl j) :: rest)
      | none => none) else none
    | _ => none
  | _ => none
def scrL (ev : EV) (mi : Nat) (ast : List AV) : Option (List AV) :=
  match ast with
  | .inr (.inr (.inr (.inr 2))) :: rest => match mi with
    | 0 => match ev.1 with
      | [] => none
      | _ :: _ => some (.inl ev.2.2 :: rest)
    | _ => none
  | _ => none
def aIald : Step := fun ev rc dep mi pc als ast ah nt =>
  match scrI ev mi ast with
  | some st => fN (pc + 1) (fun pc' => fL st (fun st' => rc dep mi pc' als st' ah nt))
  | none => aSt 1 (pald k0) ev rc dep mi pc als ast ah nt
def aAlen : Step := fun ev rc dep mi pc als ast ah nt =>
  match scrL ev mi ast with
  | some st => fN (pc + 1) (fun pc' => fL st (fun st' => rc dep mi pc' als st' ah nt))
  | none => aSt 1 palen ev rc dep mi pc als ast ah nt
def aMka (len kind : Nat) : Step := fun _ rc dep mi pc als ast ah nt =>
  match pmka kind ah nt ast with
  | some r => addu 1 r.2.2 (fH ah.length r.1 (fun h => fN (pc + len) (fun pc' => fN (nt + 1) (fun nt' => fL r.2.1 (fun st => rc dep mi pc' als st h nt')))))
  | none => none
def aThr (ec : Nat) : Step := fun _ _ _ _ pc _ ast ah nt =>
  match ast with
  | [] => some (ec + 3, pc, .inl 0, ah, nt, 1, 6)
  | _ => none
def aNew (x : Nat) (fk : List Nat) : Step := fun _ rc dep mi pc als ast ah nt =>
  addu 1 fk.length (fH ah.length (pmko x fk ah ast).1 (fun h => fN (pc + 3) (fun pc' => fL (pmko x fk ah ast).2 (fun st => rc dep mi pc' als st h nt))))
def aGets : Step := fun _ rc dep mi pc als ast ah nt => fN (pc + 3) (fun pc' => rc dep mi pc' als (.inr (.inr (.inr (.inr 3))) :: ast) ah nt)
def aLdc (len n : Nat) : Step := aSt len (fun _ ast => some (.inl n :: ast))
/-- a cast to the very class -/
def pcast (x : Nat) (ah : List AC) (ast : List AV) : Option (List AV) :=
  match ast with
  | .inr (.inr (.inl i)) :: rest => match ah[i]? with
    | some (.inl o) => match Nat.beq o.1 x with
      | true => some (.inr (.inr (.inl i)) :: rest)
      | false => none
    | _ => none
  | _ => none
/-- a step that wants so many frames -/
def aGd (F : Step) : Step := fun ev rc dep mi pc als ast ah nt =>
  match Nat.ble 8 dep with
  | true => F ev rc dep mi pc als ast ah nt
  | false => none
def aTsw (dflt lo hi : Int) (offs : Array Int) : Step := fun _ rc dep mi pc als ast ah nt =>
  match ast with
  | .inl n :: rest => if n < 2147483648 then (match tsw n pc dflt lo hi offs with
    | some t => fN t (fun t' => rc dep mi t' als rest ah nt)
    | none => none) else none
  | _ => none
def aObj : Step := fun _ rc dep mi pc als ast ah nt =>
  match ast with
  | a :: rest => match isR a && Nat.ble (acats rest) 8 with
    | true => fN (pc + 3) (fun pc' => rc dep mi pc' als rest ah nt)
    | false => none
  | _ => none
def pcopy (ah : List AC) (ast : List AV) : Option (List AC × List AV) :=
  match ast with
  | .inl n :: .inl dp :: .inr (.inr (.inl j)) :: .inl sp :: .inr (.inr (.inl i)) :: rest => match ah[i]? with
    | some ci => match ah[j]? with
      | some cj => if n < 100000 then (if dp < 100000 then (if sp < 100000 then (match copyA ci cj sp dp n with
        | some c' => match Nat.ble (acats rest) 8 with
          | true => some (ah.set j c', rest)
          | false => none
        | none => none) else none) else none) else none
      | none => none
    | none => none
  | _ => none
def pmax (_ : List AC) (ast : List AV) : Option (List AV) :=
  match ast with
  | .inl b :: .inl a :: rest => match Nat.ble (acats rest) 8 with
    | true => if a < 2147483648 then (if b < 2147483648 then some (.inl (if a ≤ b then b else a) :: rest) else none) else none
    | false => none
  | _ => none
/-- what comes behind a call -/
def aft (rc : RC) (vk : Nat) (hh : List (Nat × Nat × Nat × Nat × Nat)) (len d mi pc : Nat) (als : Als) (rest : List AV) (f : Fin9) : Option Fin9 :=
  match f with
  | (0, _, a, ah, nt, u, v) => addu u v (fN (pc + len) (fun pc' => fN nt (fun nt' => fL (a :: rest) (fun st => rc d mi pc' als st ah nt'))))
  | (1, _, _, ah, nt, u, v) => addu u v (fN (pc + len) (fun pc' => fN nt (fun nt' => rc d mi pc' als rest ah nt')))
  | (2, _, a, ah, nt, u, v) => addu u v (fN (pc + len) (fun pc' => fN nt (fun nt' => fL (a :: rest) (fun st => rc d mi pc' als st ah nt'))))
  | (ec + 3, _, _, ah, nt, u, v) => match Nat.beq vk 1 && (Nat.blt ec 3 && Nat.ble 9 d) with
    | true => match hfind hh pc ec with
      | some hp => addu u v (fN nt (fun nt' => rc d mi hp als [.inr (.inr (.inr (.inr 0)))] ah nt'))
      | none => none
    | false => none
/-- a call: which kind (0 static, 1 virtual, 2 special, 3 by an interface; at 1 and 3 the receiver's class y is looked at), how long the instruction, of the method x with so many arguments -/
def aCall (vk len x y np : Nat) (hh : List (Nat × Nat × Nat × Nat × Nat)) : Step := fun _ rc dep mi pc als ast ah nt =>
  match dep with
  | 0 => none
  | d + 1 => match Nat.ble np ast.length && (Nat.ble (acats (ast.drop np)) 8 && Nat.beq (acats (ast.take np)) np) with
    | false => none
    | true => match rcv vk ah y (ast.take np).reverse with
      | false => none
      | true => match fA (aargs 0 (ast.take np).reverse) (fun als' => rc d x 0 als' [] ah nt) with
        | none => none
        | some f => fL (ast.drop np) (fun rest => aft rc vk hh len (d + 1) mi pc als rest f)
def aPs (f : EV → Nat → Als → List AV → P1) : Step := fun ev rc dep mi pc als ast ah nt =>
  match f ev pc als ast with
  | some r => fN r.1 (fun pc' => fA r.2.1 (fun als' => fL r.2.2 (fun st => rc dep mi pc' als' st ah nt)))
  | none => none
def aNo : Step := fun _ _ _ _ _ _ _ _ _ => none
def stepOf (NP : Nat → Nat) (md : MD) (ie : IE) : Step :=
  match ie.1 with
  | .ireturn => aRet (mR md)
  | .return_ => aVoid
  | .areturn => aARet
  | .getfield _ => aSt 3 (pgf ie.2.1 ie.2.2.1)
  | .putfield _ => aWr 3 ref2 (ppf ie.2.1 ie.2.2.1 ie.2.2.2.1)
  | .iaload => aIald
  | .baload => aSt 1 (pald k1)
  | .laload => aSt 1 (pald k2)
  | .aaload => aSt 1 (pald k3)
  | .iastore => aWr 1 ref3 (past s0)
  | .bastore => aWr 1 ref3 (past s1)
  | .lastore => aWr 1 ref3 (past s2)
  | .aastore => aWr 1 ref3 (fun ah => past (aok ah) ah)
  | .arraylength => aAlen
  | .newarray _ => aMka 2 ie.2.1
  | .anewarray _ => aMka 3 (ie.2.1 + 3)
  | .new _ => match Nat.ble 100 ie.2.1 with
    | true => aThr (ie.2.1 - 100)
    | false => aNew ie.2.1 ie.2.2.2.2
  | .getstatic _ => aGets
  | .ldc _ => aLdc 2 ie.2.1
  | .ldc_w _ => aLdc 3 ie.2.1
  | .checkcast _ => aSt 3 (pcast ie.2.1)
  | .tableswitch dflt lo hi offs => aTsw dflt lo hi offs
  | .invokespecial _ => match Nat.beq ie.2.1 1000 with
    | true => aGd aObj
    | false => match ie.2.1 with
      | 0 => aNo
      | x + 1 => aCall 2 3 (x + 1) ie.2.2.1 (NP (x + 1)) (mH md)
  | .invokestatic _ => match Nat.beq ie.2.1 1000 with
    | true => aGd (aWr 3 ref3 pcopy)
    | false => match Nat.beq ie.2.1 1001 with
      | true => aGd (aSt 3 pmax)
      | false => match ie.2.1 with
        | 0 => aNo
        | x + 1 => aCall 0 3 (x + 1) ie.2.2.1 (NP (x + 1)) (mH md)
  | .invokevirtual _ => match ie.2.1 with
    | 0 => aNo
    | x + 1 => aCall 1 3 (x + 1) ie.2.2.1 (NP (x + 1)) (mH md)
  | .invokeinterface _ _ => match ie.2.1 with
    | 0 => aNo
    | x + 1 => aCall 3 5 (x + 1) ie.2.2.1 (NP (x + 1)) (mH md)
  | ins => aPs (fun ev pc als ast => ps1 ev.1 ev.2.1 (mL md) ins pc als ast)
def run (TF : List (List (Nat × Step))) (ev : EV) : Nat → RC
  | 0 => fun _ _ _ _ _ _ _ => none
  | n + 1 => fun dep mi pc als ast ah nt => match TF[mi]? with
    | none => none
    | some t => match lkp t pc with
      | none => none
      | some f => f ev (run TF ev n) dep mi pc als ast ah nt
def ename : Nat → String
  | 0 => "java/lang/IllegalStateException"
  | 1 => "java/lang/IndexOutOfBoundsException"
  | _ => "java/lang/IllegalArgumentException"
def XN : List String := ["java/lang/RuntimeException", "java/lang/Exception"]
def ALn : String := "java/util/ArrayList"
def FRM (d : Nat) : Nat := d
def LOC (d : Nat) : Nat := 100 * d + 300
