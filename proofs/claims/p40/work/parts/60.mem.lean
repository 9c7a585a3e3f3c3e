/-! a memory as one number: behind 64 bits that tell numbers apart, cells of 33 bits, 0: nothing is known, v + 1: the int v -/
def rdX (M a : Nat) : Nat := Nat.mod (Nat.shiftRight M (Nat.add (Nat.mul 33 a) 64)) 8589934592
/-- the change d of the bits from k on, and with it the mark at the lowest 64 -/
def chX (M k d : Nat) : Nat := Nat.xor (Nat.xor M (Nat.shiftLeft d k)) (Nat.mod (Nat.mul (Nat.add (Nat.mul d 65536) k) 11400714819323198485) 18446744073709551616)
def wrX (M a v : Nat) : Nat := chX M (Nat.add (Nat.mul 33 a) 64) (Nat.xor (rdX M a) (Nat.add (Nat.mod v 4294967296) 1))
def blX (M a n : Nat) : Nat := Nat.mod (Nat.shiftRight M (Nat.add (Nat.mul 33 a) 64)) (Nat.pow 2 (Nat.mul 33 n))
/-- n cells from sp on are laid to dp -/
def cpX (M sp dp n : Nat) : Nat := chX M (Nat.add (Nat.mul 33 dp) 64) (Nat.xor (blX M sp n) (blX M dp n))
theorem rdX_def (M a : Nat) : rdX M a = (M >>> (33 * a + 64)) % 2 ^ 33 := rfl
theorem chX_def (M k d : Nat) : chX M k d = (M ^^^ (d <<< k)) ^^^ ((d * 65536 + k) * 11400714819323198485 % 2 ^ 64) := rfl
theorem blX_def (M a n : Nat) : blX M a n = (M >>> (33 * a + 64)) % 2 ^ (33 * n) := rfl
theorem rdX_bit (M a i : Nat) : (rdX M a).testBit i = (decide (i < 33) && M.testBit (33 * a + 64 + i)) := by
  rw [rdX_def, Nat.testBit_mod_two_pow, Nat.testBit_shiftRight]
theorem blX_bit (M a n i : Nat) : (blX M a n).testBit i = (decide (i < 33 * n) && M.testBit (33 * a + 64 + i)) := by
  rw [blX_def, Nat.testBit_mod_two_pow, Nat.testBit_shiftRight]
theorem chX_bit (M k d j : Nat) (hj : 64 ≤ j) : (chX M k d).testBit j = (M.testBit j ^^ (decide (k ≤ j) && d.testBit (j - k))) := by
  rw [chX_def, Nat.testBit_xor, Nat.testBit_xor, Nat.testBit_shiftLeft]
  have h : (((d * 65536 + k) * 11400714819323198485 % 2 ^ 64)).testBit j = false :=
    Nat.testBit_lt_two_pow (Nat.lt_of_lt_of_le (Nat.mod_lt _ (by decide)) (Nat.pow_le_pow_right (by decide) hj))
  rw [h]
  simp
theorem rdX_lt (M a : Nat) : rdX M a < 2 ^ 33 := Nat.mod_lt _ (by decide)
theorem wrX_same (M a v : Nat) : rdX (wrX M a v) a = v % 4294967296 + 1 := by
  apply Nat.eq_of_testBit_eq
  intro i
  rw [rdX_bit]
  by_cases hi : i < 33
  · have h1 : (wrX M a v).testBit (33 * a + 64 + i) = (M.testBit (33 * a + 64 + i) ^^ (decide (33 * a + 64 ≤ 33 * a + 64 + i) && (rdX M a ^^^ (v % 4294967296 + 1)).testBit (33 * a + 64 + i - (33 * a + 64)))) := chX_bit M _ _ _ (by omega)
    rw [h1, Nat.add_sub_cancel_left, Nat.testBit_xor, rdX_bit]
    have e1 : decide (i < 33) = true := decide_eq_true hi
    have e2 : decide (33 * a + 64 ≤ 33 * a + 64 + i) = true := decide_eq_true (by omega)
    rw [e1, e2]
    cases M.testBit (33 * a + 64 + i) <;> simp
  · have e1 : decide (i < 33) = false := decide_eq_false hi
    rw [e1]
    have h2 : (v % 4294967296 + 1).testBit i = false := Nat.testBit_lt_two_pow (Nat.lt_of_lt_of_le (show v % 4294967296 + 1 < 2 ^ 33 by have := Nat.mod_lt v (show 0 < 4294967296 by decide); omega) (Nat.pow_le_pow_right (by decide) (by omega)))
    rw [h2]; rfl
theorem wrX_ne (M v : Nat) {a b : Nat} (h : b ≠ a) : rdX (wrX M a v) b = rdX M b := by
  apply Nat.eq_of_testBit_eq
  intro i
  rw [rdX_bit, rdX_bit]
  by_cases hi : i < 33
  · have h1 : (wrX M a v).testBit (33 * b + 64 + i) = (M.testBit (33 * b + 64 + i) ^^ (decide (33 * a + 64 ≤ 33 * b + 64 + i) && (rdX M a ^^^ (v % 4294967296 + 1)).testBit (33 * b + 64 + i - (33 * a + 64)))) := chX_bit M _ _ _ (by omega)
    rw [h1]
    by_cases hle : 33 * a + 64 ≤ 33 * b + 64 + i
    · have hge : 33 ≤ 33 * b + 64 + i - (33 * a + 64) := by omega
      have h2 : (rdX M a ^^^ (v % 4294967296 + 1)).testBit (33 * b + 64 + i - (33 * a + 64)) = false := by
        refine Nat.testBit_lt_two_pow (Nat.lt_of_lt_of_le (Nat.xor_lt_two_pow (n := 33) (rdX_lt M a) ?_) (Nat.pow_le_pow_right (by decide) hge))
        have := Nat.mod_lt v (show 0 < 4294967296 by decide); omega
      rw [h2]; simp
    · rw [decide_eq_false hle]; simp
  · rw [decide_eq_false hi]; rfl
theorem cpX_in (M sp dp n i : Nat) (hi : i < n) : rdX (cpX M sp dp n) (dp + i) = rdX M (sp + i) := by
  apply Nat.eq_of_testBit_eq
  intro j
  rw [rdX_bit, rdX_bit]
  by_cases hj : j < 33
  · have h1 : (cpX M sp dp n).testBit (33 * (dp + i) + 64 + j) = (M.testBit (33 * (dp + i) + 64 + j) ^^ (decide (33 * dp + 64 ≤ 33 * (dp + i) + 64 + j) && (blX M sp n ^^^ blX M dp n).testBit (33 * (dp + i) + 64 + j - (33 * dp + 64)))) := chX_bit M _ _ _ (by omega)
    have e2 : decide (33 * dp + 64 ≤ 33 * (dp + i) + 64 + j) = true := decide_eq_true (by omega)
    have e3 : 33 * (dp + i) + 64 + j - (33 * dp + 64) = 33 * i + j := by omega
    have e4 : decide (33 * i + j < 33 * n) = true := decide_eq_true (by omega)
    rw [h1, e2, e3, Nat.testBit_xor, blX_bit, blX_bit, e4]
    have e5 : 33 * sp + 64 + (33 * i + j) = 33 * (sp + i) + 64 + j := by omega
    have e6 : 33 * dp + 64 + (33 * i + j) = 33 * (dp + i) + 64 + j := by omega
    rw [e5, e6]
    cases M.testBit (33 * (dp + i) + 64 + j) <;> simp
  · rw [decide_eq_false hj]; rfl
theorem cpX_out (M sp dp n b : Nat) (hb : b < dp ∨ dp + n ≤ b) : rdX (cpX M sp dp n) b = rdX M b := by
  apply Nat.eq_of_testBit_eq
  intro j
  rw [rdX_bit, rdX_bit]
  by_cases hj : j < 33
  · have h1 : (cpX M sp dp n).testBit (33 * b + 64 + j) = (M.testBit (33 * b + 64 + j) ^^ (decide (33 * dp + 64 ≤ 33 * b + 64 + j) && (blX M sp n ^^^ blX M dp n).testBit (33 * b + 64 + j - (33 * dp + 64)))) := chX_bit M _ _ _ (by omega)
    rw [h1]
    by_cases hle : 33 * dp + 64 ≤ 33 * b + 64 + j
    · have hge : ¬ (33 * b + 64 + j - (33 * dp + 64) < 33 * n) := by omega
      rw [Nat.testBit_xor, blX_bit, blX_bit, decide_eq_false hge]; simp
    · rw [decide_eq_false hle]; simp
  · rw [decide_eq_false hj]; rfl
/-- a part of what is known -/
theorem and_rdX (M K b : Nat) (h : rdX K b = 8589934591) : rdX (Nat.land M K) b = rdX M b := by
  apply Nat.eq_of_testBit_eq
  intro j
  rw [rdX_bit, rdX_bit]
  by_cases hj : j < 33
  · have h1 : (Nat.land M K).testBit (33 * b + 64 + j) = (M.testBit (33 * b + 64 + j) && K.testBit (33 * b + 64 + j)) := Nat.testBit_and M K _
    have h2 := rdX_bit K b j
    rw [h, decide_eq_true hj, show (8589934591 : Nat) = 2 ^ 33 - 1 by decide, Nat.testBit_two_pow_sub_one, decide_eq_true hj] at h2
    rw [h1]
    simp at h2
    rw [h2]; simp
  · rw [decide_eq_false hj]; rfl
theorem and_rdX0 (M K b : Nat) (h : rdX K b = 0) : rdX (Nat.land M K) b = 0 := by
  apply Nat.eq_of_testBit_eq
  intro j
  rw [rdX_bit]
  by_cases hj : j < 33
  · have h1 : (Nat.land M K).testBit (33 * b + 64 + j) = (M.testBit (33 * b + 64 + j) && K.testBit (33 * b + 64 + j)) := Nat.testBit_and M K _
    have h2 := rdX_bit K b j
    rw [h, decide_eq_true hj] at h2
    rw [h1]
    simp at h2
    rw [h2]; simp
  · rw [decide_eq_false hj]; simp
