/-! the law's run up to its loop, by numbers: and that what is known there is INV -/
def STP : Als := [(2, .inl 0), (4, .inl 1), (3, .inl 2), (1, .inr (.inr (.inl 0))), (0, .inr (.inr (.inr (.inr 2))))]
def chkS (als : Als) : Bool := decide (als = STP)
def TF1 : List (List (Nat × Step)) := ((258, aStop chkS) :: tf_L_law) :: TF.drop 1
def cvV (M : Nat) (f : LF) (v : AV) : Bool :=
  match f with
  | some (.inl a) => isI v && (Nat.beq (rdX M a) 0 || (match v with
    | .inl n => Nat.beq (rdX M a) (n % 4294967296 + 1)
    | _ => false))
  | some (.inr i) => match v with
    | .inr (.inr (.inl j)) => Nat.beq i j
    | _ => false
  | none => true
def cvF (M : Nat) : List LF → List AV → Bool
  | [], [] => true
  | f :: l, v :: m => cvV M f v && cvF M l m
  | _, _ => false
def cvA (M : Nat) (d : AV) (ups : Als) (base w C : Nat) : Nat → Bool
  | 0 => true
  | n + 1 => (Nat.beq (rdX M (base + n)) 0 || (match alk d ups (if n < w then n else C + (n - w)) with
    | .inl v => Nat.beq (rdX M (base + n)) (v % 4294967296 + 1)
    | _ => false)) && cvA M d ups base w C n
def cvC (M : Nat) (c : AC) (lc : LC) : Bool :=
  match c, lc with
  | .inl (x', vs), .inl (x, fl) => Nat.beq x' x && cvF M fl vs
  | .inr (kind, _, len', ups, d), .inr (k, len, base, w, C, hi) => Nat.beq kind k && (Nat.ble kind 1 && (Nat.beq len' len && (Nat.ble w C && (Nat.ble C hi && (Nat.ble hi len && cvA M d ups base w C (w + (hi - C)))))))
  | _, _ => false
def cvH (M : Nat) : List AC → List (Option LC) → Bool
  | [], _ => true
  | _ :: _, [] => false
  | c :: l, lc :: m => (match lc with
    | some q => cvC M c q
    | none => true) && cvH M l m
def isP (r : Option Fin9) : Bool :=
  match r with
  | some (9, 258, .inl 0, h, _, u, v) => Nat.beq h.length 61 && (Nat.ble u 1000 && (Nat.ble v 100000 && cvH INV h LT))
  | _ => false
theorem isP_in {r : Option Fin9} (h : isP r = true) : ∃ (ah : List AC) (nt u v : Nat), r = some (9, 258, .inl 0, ah, nt, u, v) ∧ ah.length = N0 ∧ u ≤ 1000 ∧ v ≤ 100000 ∧ cvH INV ah LT = true := by
  unfold isP at h
  split at h
  · have h1 := and_cases h
    have h2 := and_cases h1.2
    have h3 := and_cases h2.2
    exact ⟨_, _, _, _, rfl, Nat.eq_of_beq_eq_true h1.1, Nat.le_of_ble_eq_true h2.1, Nat.le_of_ble_eq_true h3.1, h3.2⟩
  · cases h
set_option maxRecDepth 100000 in
theorem ph1 : isP (run TF1 ([], 64, 0) 12000 20 0 0 [(0, .inr (.inr (.inr (.inr 2))))] [] [] 0) = true := by decide +kernel
