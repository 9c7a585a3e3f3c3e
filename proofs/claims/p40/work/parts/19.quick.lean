/-! the plain instructions one by one, so that a table can name what it runs -/
abbrev QF : Type := EV → Nat → Als → List AV → P1
def qC (n : Int) : QF := fun _ pc als ast => some (pc + 1, als, .inl (i2n n) :: ast)
def qB (n : Int) : QF := fun _ pc als ast => if -128 ≤ n then (if n < 128 then some (pc + 2, als, .inl (i2n n) :: ast) else none) else none
def qS (n : Int) : QF := fun _ pc als ast => if -32768 ≤ n then (if n < 32768 then some (pc + 3, als, .inl (i2n n) :: ast) else none) else none
def qLd (i len : Nat) (ok : AV → Bool) : QF := fun _ pc als ast => pld als i (pc + len) ast ok
def qSt (nL i len : Nat) (ok : AV → Bool) : QF := fun _ pc als ast => pst nL als i (pc + len) ast ok
def qInc (nL i : Nat) (c : Int) : QF := fun _ pc als ast => match llk als i with
  | some (.inl n) => if i < nL then some (pc + 3, lst als i (.inl ((n + i2n c) % 4294967296)), ast) else none
  | _ => none
def qAdd : QF := fun _ pc als ast => ar2 (fun a b => .inl ((a + b) % 4294967296)) (pc + 1) als ast
def qSub : QF := fun _ pc als ast => ar2 (fun a b => .inl ((a + (4294967296 - b % 4294967296)) % 4294967296)) (pc + 1) als ast
def qMul : QF := fun _ pc als ast => ar2 (fun a b => .inl ((a * b) % 4294967296)) (pc + 1) als ast
def qOr : QF := fun _ pc als ast => ar2 (fun a b => .inl (a % 4294967296 ||| b % 4294967296)) (pc + 1) als ast
def qShl : QF := fun _ pc als ast => ar2 (fun a b => .inl (a * 2 ^ (b % 32) % 4294967296)) (pc + 1) als ast
def qShr : QF := fun _ pc als ast => ar2 (fun a b => if a < 2147483648 then .inl (a / 2 ^ (b % 32)) else unk) (pc + 1) als ast
def qDup : QF := fun _ pc als ast => match ast with
  | a :: rest => match Nat.beq (acat a) 1 with
    | true => some (pc + 1, als, a :: a :: rest)
    | false => none
  | _ => none
def qGo (o : Int) : QF := fun _ pc als ast => jmp (some true) pc 3 o als ast
def qIf (c : Jvm.ClassFile.Cond) (o : Int) : QF := fun ev pc als ast => match ast with
  | a :: rest => jmp (cmp2 ev.1 c a (.inl 0)) pc 3 o als rest
  | _ => none
def qIc (c : Jvm.ClassFile.Cond) (o : Int) : QF := fun ev pc als ast => match ast with
  | b :: a :: rest => jmp (cmp2 ev.1 c a b) pc 3 o als rest
  | _ => none
