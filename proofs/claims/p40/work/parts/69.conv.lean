/-! a world by numbers is a world behind one number -/
def cvV (M : Nat) (f : LF) (v : AV) : Bool :=
  match f with
  | some (.inl a) => isI v && (Nat.beq (rdX M a) 0 || (match v with
    | .inl n => Nat.beq (rdX M a) (n % 4294967296 + 1)
    | _ => false))
  | some (.inr i) => match v with
    | .inr (.inr (.inl j)) => Nat.beq i j
    | _ => false
  | none => true
def cvF (M : Nat) : List LF → List AV → Bool
  | [], [] => true
  | f :: l, v :: m => cvV M f v && cvF M l m
  | _, _ => false
def cvA (M : Nat) (d : AV) (ups : Als) (base w C : Nat) : Nat → Bool
  | 0 => true
  | n + 1 => (Nat.beq (rdX M (base + n)) 0 || (match alk d ups (if n < w then n else C + (n - w)) with
    | .inl v => Nat.beq (rdX M (base + n)) (v % 4294967296 + 1)
    | _ => false)) && cvA M d ups base w C n
def cvK (M kind len' : Nat) (ups : Als) (d : AV) (k len base w C hi : Nat) : Bool :=
  match kind with
  | 2 => Nat.beq 2 k && (Nat.beq len' len && (decide (ups = []) && decide (d = .inr (.inr (.inr (.inl (some 0)))))))
  | kind => Nat.beq kind k && (Nat.ble kind 1 && (Nat.beq len' len && (Nat.ble w C && (Nat.ble C hi && (Nat.ble hi len && cvA M d ups base w C (w + (hi - C)))))))
def cvC (M : Nat) (c : AC) (lc : LC) : Bool :=
  match c, lc with
  | .inl (x', vs), .inl (x, fl) => Nat.beq x' x && cvF M fl vs
  | .inr (kind, _, len', ups, d), .inr (k, len, base, w, C, hi) => cvK M kind len' ups d k len base w C hi
  | _, _ => false
def cvH (M : Nat) : List AC → List (Option LC) → Bool
  | [], _ => true
  | _ :: _, [] => false
  | c :: l, lc :: m => (match lc with
    | some q => cvC M c q
    | none => true) && cvH M l m
theorem or_cases {a b : Bool} (h : (a || b) = true) : a = true ∨ b = true := by
  cases a with
  | true => exact Or.inl rfl
  | false => exact Or.inr h
theorem known_ok {M a : Nat} {v : AV} {g : GV} {ρ : List Nat} {x : Int32} (h : (Nat.beq (rdX M a) 0 || (match v with
    | .inl n => Nat.beq (rdX M a) (n % 4294967296 + 1)
    | _ => false)) = true) (hr : vrel g ρ v (.int x)) : ∀ n, rdX M a = n + 1 → x = nI n := by
  intro n hn
  rcases or_cases h with h | h
  · have := Nat.eq_of_beq_eq_true h
    omega
  · match v, h, hr with
    | .inl m, h, hr =>
      have h := Nat.eq_of_beq_eq_true h
      have e : x = nI m := Value.int.inj hr
      rw [e, ← nI_mod m]
      congr 1
      omega
    | .inr _, h, _ => cases h
theorem cvV_ok {M : Nat} {f : LF} {v : AV} {w : Value} {g : GV} {ρ : List Nat} (h : cvV M f v = true) (hr : vrel g ρ v w) : lfok ρ M f w := by
  match f, h with
  | some (.inl a), h =>
    have h1 := and_cases h
    obtain ⟨x, rfl⟩ := vint h1.1 hr
    exact ⟨x, rfl, known_ok h1.2 hr⟩
  | some (.inr i), h =>
    match v, h, hr with
    | .inr (.inr (.inl j)), h, hr =>
      have h := Nat.eq_of_beq_eq_true h
      subst h
      exact hr
    | .inl _, h, _ => cases h
    | .inr (.inl _), h, _ => cases h
    | .inr (.inr (.inr _)), h, _ => cases h
  | none, _ => trivial
theorem cvF_ok {M : Nat} {g : GV} {ρ : List Nat} : ∀ (fl : List LF) (vs : List AV) (ws : List Value), cvF M fl vs = true → F2 (vrel g ρ) vs ws → F2 (lfok ρ M) fl ws := by
  intro fl
  induction fl with
  | nil =>
    intro vs ws h hF
    cases vs with
    | nil => rw [F2_nil hF]; exact F2_0
    | cons v m => cases h
  | cons f l ih =>
    intro vs ws h hF
    cases vs with
    | nil => cases h
    | cons v m =>
      have h1 := and_cases h
      obtain ⟨w, ws', rfl, hr, hF'⟩ := F2_cons hF
      exact F2_mk (cvV_ok h1.1 hr) (ih m ws' h1.2 hF')
theorem cvA_in {M : Nat} {d : AV} {ups : Als} {base w C : Nat} {n : Nat} (h : cvA M d ups base w C n = true) : ∀ j, j < n → (Nat.beq (rdX M (base + j)) 0 || (match alk d ups (if j < w then j else C + (j - w)) with
    | .inl v => Nat.beq (rdX M (base + j)) (v % 4294967296 + 1)
    | _ => false)) = true := by
  induction n with
  | zero => intro j hj; cases hj
  | succ n ih =>
    have h1 := and_cases h
    intro j hj
    rcases Nat.lt_or_ge j n with h9 | h9
    · exact ih h1.2 j h9
    · have : j = n := by omega
      subst this
      exact h1.1
theorem cvC_ok {M : Nat} {c : AC} {lc : LC} {e : va_E} {g : GV} {ρ : List Nat} {tys : TY} (h : cvC M c lc = true) (hr : crel g ρ tys c e) : crepV ρ tys M lc e := by
  match c, lc, h, hr with
  | .inl (x', vs), .inl (x, fl), h, hr =>
    have h1 := and_cases h
    have e1 := Nat.eq_of_beq_eq_true h1.1
    subst e1
    obtain ⟨ws, hF, he⟩ := hr
    exact ⟨ws, he, cvF_ok _ _ _ h1.2 hF⟩
  | .inr (2, t, len', ups, d), .inr (k, len, base, w, C, hi), h, hr =>
    have h1 := and_cases h
    have h2 := and_cases h1.2
    have h3 := and_cases h2.2
    have e1 := Nat.eq_of_beq_eq_true h1.1
    have e2 := Nat.eq_of_beq_eq_true h2.1
    have e3 := of_decide_eq_true h3.1
    have e4 := of_decide_eq_true h3.2
    subst e1
    subst e2
    subst e3
    subst e4
    obtain ⟨cA, ht, f, he, hv⟩ := hr
    exact ⟨cA, .inr (.inl f), t, ht, he, (show ∃ z : Nat → Int64, (.inr (.inl f) : (Nat → Int32) ⊕ (Nat → Int64) ⊕ (Nat → UInt32) ⊕ (Nat → UInt64) ⊕ (Nat → Option Nat)) = .inr (.inl z) ∧ ∀ i, i < len' → z i = lN 0 from ⟨f, rfl, fun i hi => Value.long.inj (hv i hi)⟩)⟩
  | .inr (0, t, len', ups, d), .inr (k, len, base, w, C, hi), h, hr =>
    have h1 := and_cases h
    have h2 := and_cases h1.2
    have h3 := and_cases h2.2
    have h4 := and_cases h3.2
    have h5 := and_cases h4.2
    have h6 := and_cases h5.2
    have e1 := Nat.eq_of_beq_eq_true h1.1
    have e2 := Nat.le_of_ble_eq_true h2.1
    have e3 := Nat.eq_of_beq_eq_true h3.1
    have e4 := Nat.le_of_ble_eq_true h4.1
    have e5 := Nat.le_of_ble_eq_true h5.1
    have e6 := Nat.le_of_ble_eq_true h6.1
    subst e1
    subst e3
    obtain ⟨cA, ht, ha⟩ := hr
    obtain ⟨f, he, hv⟩ := ha
    refine ⟨cA, .inl f, t, ht, he, (crepA_int (by decide)).mpr ⟨f, rfl, fun i a ha => ?_⟩⟩
    rcases aX_in ha with ⟨q1, q2, q3⟩ | ⟨q1, q2, q3⟩
    · have h9 := cvA_in h6.2 i (by omega)
      rw [if_pos q2] at h9
      rw [q3]
      exact known_ok h9 (hv i (by omega))
    · have h9 := cvA_in h6.2 (w + (i - C)) (by omega)
      rw [if_neg (by omega), show C + (w + (i - C) - w) = i by omega, show base + (w + (i - C)) = base + w + (i - C) by omega] at h9
      rw [q3]
      exact known_ok h9 (hv i (by omega))
  | .inr (1, t, len', ups, d), .inr (k, len, base, w, C, hi), h, hr =>
    have h1 := and_cases h
    have h2 := and_cases h1.2
    have h3 := and_cases h2.2
    have h4 := and_cases h3.2
    have h5 := and_cases h4.2
    have h6 := and_cases h5.2
    have e1 := Nat.eq_of_beq_eq_true h1.1
    have e2 := Nat.le_of_ble_eq_true h2.1
    have e3 := Nat.eq_of_beq_eq_true h3.1
    have e4 := Nat.le_of_ble_eq_true h4.1
    have e5 := Nat.le_of_ble_eq_true h5.1
    have e6 := Nat.le_of_ble_eq_true h6.1
    subst e1
    subst e3
    obtain ⟨cA, ht, ha⟩ := hr
    obtain ⟨f, he, hv⟩ := ha
    refine ⟨cA, .inl f, t, ht, he, (crepA_int (by decide)).mpr ⟨f, rfl, fun i a ha => ?_⟩⟩
    rcases aX_in ha with ⟨q1, q2, q3⟩ | ⟨q1, q2, q3⟩
    · have h9 := cvA_in h6.2 i (by omega)
      rw [if_pos q2] at h9
      rw [q3]
      exact known_ok h9 (hv i (by omega))
    · have h9 := cvA_in h6.2 (w + (i - C)) (by omega)
      rw [if_neg (by omega), show C + (w + (i - C) - w) = i by omega, show base + (w + (i - C)) = base + w + (i - C) by omega] at h9
      rw [q3]
      exact known_ok h9 (hv i (by omega))
  | .inr (n + 3, t, len', ups, d), .inr (k, len, base, w, C, hi), h, hr =>
    have h : (Nat.beq (n + 3) k && (Nat.ble (n + 3) 1 && (Nat.beq len' len && (Nat.ble w C && (Nat.ble C hi && (Nat.ble hi len && cvA M d ups base w C (w + (hi - C)))))))) = true := h
    have h2 := Nat.le_of_ble_eq_true (and_cases (and_cases h).2).1
    omega
  | .inl _, .inr _, h, _ => cases h
  | .inr _, .inl _, h, _ => cases h
theorem cvH_get {M : Nat} : ∀ (ah : List AC) (lt : List (Option LC)), cvH M ah lt = true → ∀ (j : Nat) (ac : AC) (c : LC), ah[j]? = some ac → lt[j]? = some (some c) → cvC M ac c = true := by
  intro ah
  induction ah with
  | nil => intro lt _ j ac c h1; simp at h1
  | cons a l ih =>
    intro lt h j ac c h1 h2
    cases lt with
    | nil => cases h
    | cons q m =>
      have h3 := and_cases h
      cases j with
      | zero =>
        have e1 : a = ac := by simpa using h1
        have e2 : q = some c := by simpa using h2
        subst e1
        subst e2
        exact h3.1
      | succ j => exact ih m h3.2 j ac c (by simpa using h1) (by simpa using h2)
theorem HRN_conv {g : GV} {D : va_G} {A : Nat → Prop} {s : State} {ρ : List Nat} {tys : TY} {ah : List AC} {H : Heap} {locs : List Loc} {M : Nat} (hR : HR g D A s ρ tys ah H locs) (hl : ah.length = N0) (h : cvH M ah LT = true) : HRN LT N0 D 0 M A s ρ tys H locs := by
  obtain ⟨hK, ws, e1, hP, hDD, hSS, hW⟩ := hR
  have hlen := F2_len hW
  refine ⟨hK, ws, by omega, e1, hP, hDD, hSS, fun j w hw c hc => ?_⟩
  have hj : j < ah.length := by rw [hlen]; exact (List.getElem?_eq_some_iff.mp hw).1
  obtain ⟨ac, hac⟩ : ∃ ac, ah[j]? = some ac := ⟨ah[j], List.getElem?_eq_getElem hj⟩
  obtain ⟨b, hb, hr⟩ := F2_get hW hac
  cases hb.symm.trans hw
  exact cvC_ok (cvH_get ah LT h j ac c hac hc) hr
