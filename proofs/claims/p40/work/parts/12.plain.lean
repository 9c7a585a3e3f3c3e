/-! the instructions that leave the heap alone -/
def i2n (n : Int) : Nat := (n % 4294967296).toNat
theorem i2n_ok (n : Int) : Int32.ofInt n = nI (i2n n) := by
  apply nI_of_tn
  show (BitVec.ofInt 32 n).toNat = _
  rw [BitVec.toNat_ofInt]
  unfold i2n
  show (n % 4294967296).toNat = _
  have h1 := Int.emod_nonneg n (show (4294967296 : Int) ≠ 0 by decide)
  have h2 := Int.emod_lt_of_pos n (show (0 : Int) < 4294967296 by decide)
  omega
theorem ti_nI {x : Int32} {n : Int} (h1 : -2147483648 ≤ n) (h2 : n < 2147483648) (h : x.toInt = n) : x = nI (i2n n) := by
  rw [← i2n_ok, ← Int32.toInt_inj, h, Int32.toInt_ofInt, Int.bmod_def]
  have h3 := Int.emod_nonneg n (show (4294967296 : Int) ≠ 0 by decide)
  have h4 := Int.emod_lt_of_pos n (show (0 : Int) < 4294967296 by decide)
  have h5 := Int.emod_add_mul_ediv n 4294967296
  show n = if n % 4294967296 < (4294967296 + 1) / 2 then n % 4294967296 else n % 4294967296 - 4294967296
  split <;> omega
theorem bi_ok {n : Int} (h1 : -128 ≤ n) (h2 : n < 128) : (Int8.ofInt n).toInt32 = nI (i2n n) := by
  refine ti_nI (by omega) (by omega) ?_
  rw [Int8.toInt_toInt32, Int8.toInt_ofInt, Int.bmod_def]
  show (if n % 256 < (256 + 1) / 2 then n % 256 else n % 256 - 256) = n
  split <;> omega
theorem si_ok {n : Int} (h1 : -32768 ≤ n) (h2 : n < 32768) : (Int16.ofInt n).toInt32 = nI (i2n n) := by
  refine ti_nI (by omega) (by omega) ?_
  rw [Int16.toInt_toInt32, Int16.toInt_ofInt, Int.bmod_def]
  show (if n % 65536 < (65536 + 1) / 2 then n % 65536 else n % 65536 - 65536) = n
  split <;> omega
theorem and31 (b : Nat) : nI b &&& 31 = nI (b % 32) := by
  have h : (31 : Int32).toBitVec.toNat = 2 ^ 5 - 1 := by decide
  have h2 := pk_and (nI b) 5 h
  rw [h2, nI_tn]
  congr 1
  omega
theorem smod32 : ∀ n, n < 32 → (((nI n).toBitVec).smod 32).toNat = n := by decide +kernel
theorem shl_ok (a b : Nat) : nI a <<< (nI b &&& 31) = nI (a * 2 ^ (b % 32) % 4294967296) := by
  rw [and31]
  apply nI_of_tn
  rw [pk_shl (nI a) (nI (b % 32)) (b % 32) (smod32 _ (Nat.mod_lt _ (by decide))), nI_tn, Nat.mod_mod]
  show a % 4294967296 * 2 ^ (b % 32) % 4294967296 = _
  rw [Nat.mod_mul_mod]
theorem shr_ok {a b : Nat} (h : a < 2147483648) : nI a >>> (nI b &&& 31) = nI (a / 2 ^ (b % 32)) := by
  rw [and31]
  exact pk_shrN h (nI (b % 32)) (b % 32) (smod32 _ (Nat.mod_lt _ (by decide)))
theorem nbit (f : Nat → Nat → Nat) (op : Int32 → Int32 → Int32) (h : ∀ x y : Int32, (op x y).toBitVec.toNat = f x.toBitVec.toNat y.toBitVec.toNat) (hm : ∀ a b : Nat, f (a % 4294967296) (b % 4294967296) % 4294967296 = f (a % 4294967296) (b % 4294967296)) (a b : Nat) : op (nI a) (nI b) = nI (f (a % 4294967296) (b % 4294967296)) := by
  apply nI_of_tn
  rw [h, nI_tn, nI_tn, hm]
theorem and_ok (a b : Nat) : nI a &&& nI b = nI (a % 4294967296 &&& b % 4294967296) := nbit (fun a b => a &&& b) (fun x y => x &&& y) (fun _ _ => BitVec.toNat_and _ _) (fun a b => Nat.mod_eq_of_lt (Nat.lt_of_le_of_lt Nat.and_le_left (Nat.mod_lt _ (by decide)))) a b
theorem or_ok (a b : Nat) : nI a ||| nI b = nI (a % 4294967296 ||| b % 4294967296) := nbit (fun a b => a ||| b) (fun x y => x ||| y) (fun _ _ => BitVec.toNat_or _ _) (fun a b => Nat.mod_eq_of_lt (Nat.or_lt_two_pow (n := 32) (Nat.mod_lt _ (by decide)) (Nat.mod_lt _ (by decide)))) a b
theorem xor_ok (a b : Nat) : nI a ^^^ nI b = nI (a % 4294967296 ^^^ b % 4294967296) := nbit (fun a b => a ^^^ b) (fun x y => x ^^^ y) (fun _ _ => BitVec.toNat_xor _ _) (fun a b => Nat.mod_eq_of_lt (Nat.xor_lt_two_pow (n := 32) (Nat.mod_lt _ (by decide)) (Nat.mod_lt _ (by decide)))) a b
theorem i2l_ok {n : Nat} (h : n < 2147483648) : (nI n).toInt64 = lN n := nI_l h
theorem i2l_neg {n : Nat} (h : ¬ n < 2147483648) (h2 : n < 4294967296) : (nI n).toInt64 = lN (n + 18446744069414584320) := by
  apply Int64.toInt_inj.mp
  rw [Int32.toInt_toInt64]
  have e1 : (nI n).toInt = (n : Int).bmod 4294967296 := by simp [nI, Int32.toInt_ofNat]
  have e2 : (lN (n + 18446744069414584320)).toInt = (n : Int) - 4294967296 := by
    simp [lN, Int64.toInt_ofNat]
    rw [show Int64.size = 18446744073709551616 from rfl, Int.bmod_def]
    split <;> omega
  rw [e1, e2, Int.bmod_def]
  split <;> omega
theorem lcmp_self (x : Int64) : lg_cmp x x = 0 := by simp [lg_cmp]
/-! the run of one of them -/
abbrev P1 : Type := Option (Nat × Als × List AV)
def isRN (a : AV) : Bool := isR a || isN a
def pld (als : Als) (i pc' : Nat) (ast : List AV) (ok : AV → Bool) : P1 :=
  match llk als i with
  | some a => match ok a with
    | true => some (pc', als, a :: ast)
    | false => none
  | none => none
def pst (nL : Nat) (als : Als) (i pc' : Nat) (ast : List AV) (ok : AV → Bool) : P1 :=
  match ast with
  | a :: rest => match ok a with
    | true => if i < nL then some (pc', lst als i a, rest) else none
    | false => none
  | [] => none
def ar2 (f : Nat → Nat → AV) (pc' : Nat) (als : Als) (ast : List AV) : P1 :=
  match ast with
  | .inl b :: .inl a :: rest => some (pc', als, f a b :: rest)
  | b :: a :: rest => match isI a && isI b with
    | true => some (pc', als, .inr (.inr (.inr (.inr 1))) :: rest)
    | false => none
  | _ => none
def unk : AV := .inr (.inr (.inr (.inr 1)))
def tgt (pc : Nat) (o : Int) : Option Nat := if 0 ≤ (pc : Int) + o then some ((pc : Int) + o).toNat else none
def jmp (r : Option Bool) (pc len : Nat) (o : Int) (als : Als) (ast : List AV) : P1 :=
  match tgt pc o with
  | some t => match r with
    | some true => some (t, als, ast)
    | some false => some (pc + len, als, ast)
    | none => none
  | none => none
def cmp2 (bnd : List (Nat × Nat)) (c : Jvm.ClassFile.Cond) (a b : AV) : Option Bool :=
  match ivl bnd a with
  | some i => match ivl bnd b with
    | some j => icmp c i j
    | none => none
  | none => none
def rsame (a b : AV) : Option Bool :=
  match a, b with
  | .inr (.inr (.inl i)), .inr (.inr (.inl j)) => match Nat.beq i j with
    | true => some true
    | false => none
  | .inr (.inr (.inr (.inr 3))), .inr (.inr (.inr (.inr 3))) => some true
  | _, _ => none
def ps1 (bnd : List (Nat × Nat)) (msk nL : Nat) (ins : Instr) (pc : Nat) (als : Als) (ast : List AV) : P1 :=
  match ins with
  | .iconst n => some (pc + 1, als, .inl (i2n n) :: ast)
  | .bipush n => if -128 ≤ n then (if n < 128 then some (pc + 2, als, .inl (i2n n) :: ast) else none) else none
  | .sipush n => if -32768 ≤ n then (if n < 32768 then some (pc + 3, als, .inl (i2n n) :: ast) else none) else none
  | .aconst_null => some (pc + 1, als, .inr (.inr (.inr (.inl none))) :: ast)
  | .iload_n k => pld als k.val (pc + 1) ast isI
  | .iload i => pld als i (pc + 2) ast isI
  | .aload_n k => pld als k.val (pc + 1) ast isRN
  | .aload i => pld als i (pc + 2) ast isRN
  | .istore_n k => pst nL als k.val (pc + 1) ast isI
  | .istore i => pst nL als i (pc + 2) ast isI
  | .astore_n k => pst nL als k.val (pc + 1) ast isRN
  | .astore i => pst nL als i (pc + 2) ast isRN
  | .iinc i c => match llk als i with
    | some (.inl n) => if i < nL then some (pc + 3, lst als i (.inl ((n + i2n c) % 4294967296)), ast) else none
    | _ => none
  | .iadd => ar2 (fun a b => .inl ((a + b) % 4294967296)) (pc + 1) als ast
  | .isub => ar2 (fun a b => .inl ((a + (4294967296 - b % 4294967296)) % 4294967296)) (pc + 1) als ast
  | .imul => ar2 (fun a b => .inl ((a * b) % 4294967296)) (pc + 1) als ast
  | .iand => match ast with
    | .inl 63 :: .inr (.inl 0) :: rest => if msk < 64 then some (pc + 1, als, .inl msk :: rest) else none
    | _ => ar2 (fun a b => .inl (a % 4294967296 &&& b % 4294967296)) (pc + 1) als ast
  | .ior => ar2 (fun a b => .inl (a % 4294967296 ||| b % 4294967296)) (pc + 1) als ast
  | .ixor => ar2 (fun a b => .inl (a % 4294967296 ^^^ b % 4294967296)) (pc + 1) als ast
  | .ishl => ar2 (fun a b => .inl (a * 2 ^ (b % 32) % 4294967296)) (pc + 1) als ast
  | .ishr => ar2 (fun a b => if a < 2147483648 then .inl (a / 2 ^ (b % 32)) else unk) (pc + 1) als ast
  | .iushr => ar2 (fun a b => .inl (a % 4294967296 / 2 ^ (b % 32))) (pc + 1) als ast
  | .ineg => match ast with
    | .inl a :: rest => some (pc + 1, als, .inl ((4294967296 - a % 4294967296) % 4294967296) :: rest)
    | _ => none
  | .idiv => match ast with
    | .inl b :: .inl a :: rest => if a < 2147483648 then (if b < 2147483648 then (if 0 < b then some (pc + 1, als, .inl (a / b) :: rest) else none) else none) else none
    | _ => none
  | .irem => match ast with
    | .inl b :: .inl a :: rest => if a < 2147483648 then (if b < 2147483648 then (if 0 < b then some (pc + 1, als, .inl (a % b) :: rest) else none) else none) else none
    | _ => none
  | .i2l => match ast with
    | .inl a :: rest => if a < 2147483648 then some (pc + 1, als, .inr (.inr (.inr (.inl (some a)))) :: rest) else if a < 4294967296 then some (pc + 1, als, .inr (.inr (.inr (.inl (some (a + 18446744069414584320))))) :: rest) else none
    | _ => none
  | .lcmp => match ast with
    | .inr (.inr (.inr (.inl (some b)))) :: .inr (.inr (.inr (.inl (some a)))) :: rest => if a = b then some (pc + 1, als, .inl 0 :: rest) else none
    | _ => none
  | .dup => match ast with
    | a :: rest => match Nat.beq (acat a) 1 with
      | true => some (pc + 1, als, a :: a :: rest)
      | false => none
    | _ => none
  | .dup_x1 => match ast with
    | a :: b :: rest => match Nat.beq (acat a) 1 && Nat.beq (acat b) 1 with
      | true => some (pc + 1, als, a :: b :: a :: rest)
      | false => none
    | _ => none
  | .dup2 => match ast with
    | a :: b :: rest => match Nat.beq (acat a) 1 && Nat.beq (acat b) 1 with
      | true => some (pc + 1, als, a :: b :: a :: b :: rest)
      | false => none
    | _ => none
  | .pop => match ast with
    | a :: rest => match Nat.beq (acat a) 1 with
      | true => some (pc + 1, als, rest)
      | false => none
    | _ => none
  | .goto o => jmp (some true) pc 3 o als ast
  | .ifCond c o => match ast with
    | a :: rest => jmp (cmp2 bnd c a (.inl 0)) pc 3 o als rest
    | _ => none
  | .if_icmp c o => match ast with
    | b :: a :: rest => jmp (cmp2 bnd c a b) pc 3 o als rest
    | _ => none
  | .ifnull o => match ast with
    | a :: rest => jmp (match isN a with | true => some true | false => match isR a with | true => some false | false => none) pc 3 o als rest
    | _ => none
  | .ifnonnull o => match ast with
    | a :: rest => jmp (match isN a with | true => some false | false => match isR a with | true => some true | false => none) pc 3 o als rest
    | _ => none
  | .if_acmp .eq o => match ast with
    | b :: a :: rest => jmp (rsame a b) pc 3 o als rest
    | _ => none
  | .if_acmp .ne o => match ast with
    | b :: a :: rest => jmp ((rsame a b).map (fun x => !x)) pc 3 o als rest
    | _ => none
  | _ => none
