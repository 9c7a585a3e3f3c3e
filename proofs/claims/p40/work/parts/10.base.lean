/-! two lists, place by place -/
def F2 {α β : Type} (R : α → β → Prop) : List α → List β → Prop
  | [], [] => True
  | a :: l, b :: m => R a b ∧ F2 R l m
  | [], _ :: _ => False
  | _ :: _, [] => False
theorem F2_nil {α β : Type} {R : α → β → Prop} {m : List β} (h : F2 R [] m) : m = [] := by
  cases m with
  | nil => rfl
  | cons b m => exact (show False from h).elim
theorem F2_nilR {α β : Type} {R : α → β → Prop} {l : List α} (h : F2 R l []) : l = [] := by
  cases l with
  | nil => rfl
  | cons b m => exact (show False from h).elim
theorem F2_cons {α β : Type} {R : α → β → Prop} {a : α} {l : List α} {m : List β} (h : F2 R (a :: l) m) : ∃ b m', m = b :: m' ∧ R a b ∧ F2 R l m' := by
  cases m with
  | nil => exact (show False from h).elim
  | cons b m => exact ⟨b, m, rfl, (show R a b ∧ F2 R l m from h).1, (show R a b ∧ F2 R l m from h).2⟩
theorem F2_mk {α β : Type} {R : α → β → Prop} {a : α} {b : β} {l : List α} {m : List β} (h1 : R a b) (h2 : F2 R l m) : F2 R (a :: l) (b :: m) := (show R a b ∧ F2 R l m from ⟨h1, h2⟩)
theorem F2_0 {α β : Type} {R : α → β → Prop} : F2 R [] [] := trivial
theorem F2_get {α β : Type} {R : α → β → Prop} {l : List α} {m : List β} (h : F2 R l m) {i : Nat} {a : α} (hi : l[i]? = some a) : ∃ b, m[i]? = some b ∧ R a b := by
  induction l generalizing m i with
  | nil => simp at hi
  | cons x l ih =>
    obtain ⟨b, m', rfl, h1, h2⟩ := F2_cons h
    cases i with
    | zero => simp at hi; subst hi; exact ⟨b, rfl, h1⟩
    | succ i => simp at hi; obtain ⟨b', hb, hr⟩ := ih h2 hi; exact ⟨b', by simpa using hb, hr⟩
theorem F2_len {α β : Type} {R : α → β → Prop} {l : List α} {m : List β} (h : F2 R l m) : l.length = m.length := by
  induction l generalizing m with
  | nil => rw [F2_nil h]; rfl
  | cons x l ih =>
    obtain ⟨b, m', rfl, h1, h2⟩ := F2_cons h
    simp [ih h2]
theorem F2_mono {α β : Type} {R R' : α → β → Prop} (hR : ∀ a b, R a b → R' a b) {l : List α} {m : List β} (h : F2 R l m) : F2 R' l m := by
  induction l generalizing m with
  | nil => rw [F2_nil h]; trivial
  | cons x l ih =>
    obtain ⟨b, m', rfl, h1, h2⟩ := F2_cons h
    exact F2_mk (hR _ _ h1) (ih h2)
theorem F2_set {α β : Type} {R : α → β → Prop} {l : List α} {m : List β} (h : F2 R l m) (i : Nat) {a : α} {b : β} (hab : R a b) : F2 R (l.set i a) (m.set i b) := by
  induction l generalizing m i with
  | nil => rw [F2_nil h]; exact F2_0
  | cons x l ih =>
    obtain ⟨b', m', rfl, h1, h2⟩ := F2_cons h
    cases i with
    | zero => exact F2_mk hab h2
    | succ i => exact F2_mk h1 (ih h2 i)
theorem F2_app {α β : Type} {R : α → β → Prop} {l l' : List α} {m m' : List β} (h : F2 R l m) (h' : F2 R l' m') : F2 R (l ++ l') (m ++ m') := by
  induction l generalizing m with
  | nil => rw [F2_nil h]; exact h'
  | cons x l ih =>
    obtain ⟨b, m', rfl, h1, h2⟩ := F2_cons h
    exact F2_mk h1 (ih h2)
theorem F2_rev {α β : Type} {R : α → β → Prop} {l : List α} {m : List β} (h : F2 R l m) : F2 R l.reverse m.reverse := by
  induction l generalizing m with
  | nil => rw [F2_nil h]; exact F2_0
  | cons x l ih =>
    obtain ⟨b, m', rfl, h1, h2⟩ := F2_cons h
    simp only [List.reverse_cons]
    exact F2_app (ih h2) (F2_mk h1 F2_0)
theorem F2_take {α β : Type} {R : α → β → Prop} {l : List α} {m : List β} (h : F2 R l m) (n : Nat) : F2 R (l.take n) (m.take n) ∧ F2 R (l.drop n) (m.drop n) := by
  induction l generalizing m n with
  | nil => rw [F2_nil h]; simp [F2]
  | cons x l ih =>
    obtain ⟨b, m', rfl, h1, h2⟩ := F2_cons h
    cases n with
    | zero => exact ⟨F2_0, F2_mk h1 h2⟩
    | succ n => exact ⟨F2_mk h1 (ih h2 n).1, (ih h2 n).2⟩
theorem F2_filter {α β : Type} {R : α → β → Prop} {p : α → Bool} {q : β → Bool} (hpq : ∀ a b, R a b → p a = q b) {l : List α} {m : List β} (h : F2 R l m) : F2 R (l.filter p) (m.filter q) := by
  induction l generalizing m with
  | nil => rw [F2_nil h]; exact F2_0
  | cons x l ih =>
    obtain ⟨b, m', rfl, h1, h2⟩ := F2_cons h
    have e := hpq _ _ h1
    cases hq : q b with
    | true => rw [List.filter_cons_of_pos (e.trans hq), List.filter_cons_of_pos hq]; exact F2_mk h1 (ih h2)
    | false =>
      rw [List.filter_cons_of_neg (by rw [e, hq]; decide), List.filter_cons_of_neg (by rw [hq]; decide)]; exact ih h2
/-! numbers -/
def m32 : Nat := 4294967296
def h31 : Nat := 2147483648
theorem nI_tn (n : Nat) : (nI n).toBitVec.toNat = n % 4294967296 := by
  show (BitVec.ofNat 32 n).toNat = n % 4294967296
  rw [BitVec.toNat_ofNat]
theorem nI_mod (n : Nat) : nI (n % 4294967296) = nI n := by
  apply Int32.toBitVec_inj.mp
  apply BitVec.eq_of_toNat_eq
  rw [nI_tn, nI_tn, Nat.mod_mod]
theorem nI_of_tn {x : Int32} {n : Nat} (h : x.toBitVec.toNat = n % 4294967296) : x = nI n := by
  apply Int32.toBitVec_inj.mp
  apply BitVec.eq_of_toNat_eq
  rw [h, nI_tn]
theorem nI_subG (a b : Nat) : nI a - nI b = nI ((a + (4294967296 - b % 4294967296)) % 4294967296) := by
  apply nI_of_tn
  have h : (nI a - nI b).toBitVec = (nI a).toBitVec - (nI b).toBitVec := rfl
  rw [h, BitVec.toNat_sub, nI_tn, nI_tn]
  omega
theorem nI_addG (a b : Nat) : nI a + nI b = nI ((a + b) % 4294967296) := by rw [nI_mod, nI_add]
theorem nI_mulG (a b : Nat) : nI a * nI b = nI ((a * b) % 4294967296) := by rw [nI_mod, pk_mul]
/-- where an int lies among all, from the least on -/
def off (x : Int32) : Nat := (x.toInt + 2147483648).toNat
theorem off_lt (x : Int32) : off x < 4294967296 := by
  have h1 := Int32.toInt_lt x
  have h2 := Int32.le_toInt x
  unfold off; omega
theorem off_le (x y : Int32) : x ≤ y ↔ off x ≤ off y := by
  have h1 := Int32.le_toInt x
  have h2 := Int32.le_toInt y
  rw [Int32.le_iff_toInt_le]; unfold off; omega
theorem off_ltI (x y : Int32) : x < y ↔ off x < off y := by
  have h1 := Int32.le_toInt x
  have h2 := Int32.le_toInt y
  rw [Int32.lt_iff_toInt_lt]; unfold off; omega
theorem off_eq (x y : Int32) : x = y ↔ off x = off y := by
  have h1 := Int32.le_toInt x
  have h2 := Int32.le_toInt y
  rw [← Int32.toInt_inj]; unfold off; omega
theorem off_nI (n : Nat) : off (nI n) = (n + 2147483648) % 4294967296 := by
  have h : (nI n).toInt = (n : Int).bmod 4294967296 := by simp [nI, Int32.toInt_ofNat]
  unfold off; rw [h, Int.bmod_def]
  split <;> omega
