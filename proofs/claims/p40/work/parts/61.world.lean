/-! the world behind one number: where each cell's numbers lie (fields: an address, or the cell that it holds for good; an int row: kind, length, the address of its first place, how many places are told) -/
abbrev LF : Type := Option (Nat ⊕ Nat)
abbrev LC : Type := (Nat × List LF) ⊕ (Nat × Nat × Nat × Nat × Nat × Nat)
/-- where the place n of an int row lies, and 1: the places below w behind base, those from C on behind these; 0: nowhere -/
noncomputable def aX (base w C len n : Nat) : Nat := @Bool.rec (fun _ => Nat) (@Bool.rec (fun _ => Nat) 0 (Nat.add (Nat.add base n) 1) (Nat.ble (Nat.add n 1) w)) (@Bool.rec (fun _ => Nat) 0 (Nat.add (Nat.add (Nat.add base w) (Nat.sub n C)) 1) (Nat.ble (Nat.add n 1) len)) (Nat.ble C n)
theorem aX_in {base w C len n a : Nat} (h : aX base w C len n = a + 1) : (n < C ∧ n < w ∧ a = base + n) ∨ (C ≤ n ∧ n < len ∧ a = base + w + (n - C)) := by
  unfold aX at h
  cases e : Nat.ble C n with
  | true =>
    rw [e] at h
    cases e2 : Nat.ble (Nat.add n 1) len with
    | true =>
      rw [e2] at h
      have h : base + w + (n - C) + 1 = a + 1 := h
      exact Or.inr ⟨Nat.le_of_ble_eq_true e, Nat.le_of_ble_eq_true e2, by omega⟩
    | false => rw [e2] at h; cases h
  | false =>
    have e0 : ¬ C ≤ n := fun z => by rw [Nat.ble_eq_true_of_le z] at e; cases e
    rw [e] at h
    cases e2 : Nat.ble (Nat.add n 1) w with
    | true =>
      rw [e2] at h
      have h : base + n + 1 = a + 1 := h
      exact Or.inl ⟨by omega, Nat.le_of_ble_eq_true e2, by omega⟩
    | false => rw [e2] at h; cases h
theorem aX_lo {base w C len n : Nat} (hC : n < C) (h : n < w) : aX base w C len n = base + n + 1 := by
  unfold aX
  have e : Nat.ble C n = false := by
    cases e : Nat.ble C n with
    | false => rfl
    | true => have := Nat.le_of_ble_eq_true e; omega
  rw [e, Nat.ble_eq_true_of_le (show Nat.add n 1 ≤ w from h)]
  rfl
theorem aX_hi {base w C len n : Nat} (hC : C ≤ n) (h : n < len) : aX base w C len n = base + w + (n - C) + 1 := by
  unfold aX
  rw [Nat.ble_eq_true_of_le hC, Nat.ble_eq_true_of_le (show Nat.add n 1 ≤ len from h)]
  rfl
def lfok (ρ : List Nat) (M : Nat) (f : LF) (v : Value) : Prop :=
  match f with
  | some (.inl a) => ∃ x, v = .int x ∧ ∀ n, rdX M a = n + 1 → x = nI n
  | some (.inr i) => ∃ a, ρ[i]? = some a ∧ v = .ref a
  | none => True
/-- an int row's places; a long row's: all zero -/
def crepA (M k len base w C hi : Nat) (F : (Nat → Int32) ⊕ (Nat → Int64) ⊕ (Nat → UInt32) ⊕ (Nat → UInt64) ⊕ (Nat → Option Nat)) : Prop :=
  match k with
  | 2 => ∃ z : Nat → Int64, F = .inr (.inl z) ∧ ∀ i, i < len → z i = lN 0
  | _ => ∃ f : Nat → Int32, F = .inl f ∧ ∀ i a, aX base w C hi i = a + 1 → ∀ n, rdX M a = n + 1 → f i = nI n
theorem crepA_int {M k len base w C hi : Nat} (hk : k ≤ 1) {F : (Nat → Int32) ⊕ (Nat → Int64) ⊕ (Nat → UInt32) ⊕ (Nat → UInt64) ⊕ (Nat → Option Nat)} : crepA M k len base w C hi F ↔ ∃ f : Nat → Int32, F = .inl f ∧ ∀ i a, aX base w C hi i = a + 1 → ∀ n, rdX M a = n + 1 → f i = nI n := by
  match k, hk with
  | 0, _ => exact Iff.rfl
  | 1, _ => exact Iff.rfl
  | n + 2, hk => omega
def crepV (ρ : List Nat) (tys : TY) (M : Nat) (c : LC) (e : va_E) : Prop :=
  match c with
  | .inl (x, fl) => ∃ fs, e = .inr (x, fs) ∧ F2 (lfok ρ M) fl fs
  | .inr (k, len, base, w, C, hi) => ∃ (cA : ClassId) (F : (Nat → Int32) ⊕ (Nat → Int64) ⊕ (Nat → UInt32) ⊕ (Nat → UInt64) ⊕ (Nat → Option Nat)) (t : Nat), tys[t]? = some (cA, kty k) ∧ e = .inl (cA, len, F) ∧ crepA M k len base w C hi F
def inC (c : LC) (a : Nat) : Prop :=
  match c with
  | .inl (_, fl) => some (Sum.inl a) ∈ fl
  | .inr (_, _, base, w, C, hi) => base ≤ a ∧ a < base + (w + (hi - C))
def okF (lo : Nat) : List LF → Option Nat
  | [] => some lo
  | some (.inl a) :: l => match Nat.ble lo a with
    | true => okF (a + 1) l
    | false => none
  | _ :: l => okF lo l
def okC (lo : Nat) (c : LC) : Option Nat :=
  match c with
  | .inl (_, fl) => okF lo fl
  | .inr (_, _, base, w, C, hi) => match Nat.ble lo base with
    | true => some (base + (w + (hi - C)))
    | false => none
/-- where an object's first number lies -/
def frF : List LF → Nat
  | [] => 0
  | some (.inl a) :: _ => a
  | _ :: l => frF l
def loC (c : LC) : Nat := match c with
  | .inl (_, fl) => frF fl
  | .inr (_, _, base, _) => base
def okR (lo hi : Nat) : List (Option LC) → Bool
  | [] => true
  | none :: l => okR lo hi l
  | some d :: l => (match okC (loC d) d with
    | some h9 => Nat.ble h9 lo || Nat.ble hi (loC d)
    | none => false) && okR lo hi l
/-- each cell's numbers lie apart from the others' -/
def okL : List (Option LC) → Bool
  | [] => true
  | none :: l => okL l
  | some c :: l => match okC (loC c) c with
    | some hi => okR (loC c) hi l && okL l
    | none => false
theorem okF_le {l : List LF} {lo hi : Nat} (h : okF lo l = some hi) : lo ≤ hi ∧ ∀ a, some (Sum.inl a) ∈ l → lo ≤ a ∧ a < hi := by
  induction l generalizing lo with
  | nil => cases h; exact ⟨Nat.le_refl _, fun a ha => by cases ha⟩
  | cons f l ih =>
    match f, h with
    | some (.inl b), h =>
      have h : (match Nat.ble lo b with | true => okF (b + 1) l | false => none) = some hi := h
      split at h
      · rename_i hb
        have hb := Nat.le_of_ble_eq_true hb
        obtain ⟨h1, h2⟩ := ih h
        refine ⟨by omega, fun a ha => ?_⟩
        rcases List.mem_cons.mp ha with e | ha
        · cases e; omega
        · have := h2 a ha; omega
      · cases h
    | some (.inr i), h =>
      obtain ⟨h1, h2⟩ := ih h
      refine ⟨h1, fun a ha => ?_⟩
      rcases List.mem_cons.mp ha with e | ha
      · cases e
      · exact h2 a ha
    | none, h =>
      obtain ⟨h1, h2⟩ := ih h
      refine ⟨h1, fun a ha => ?_⟩
      rcases List.mem_cons.mp ha with e | ha
      · cases e
      · exact h2 a ha
/-- each address of an object is one field's -/
theorem okF_inj {l : List LF} {lo hi : Nat} (h : okF lo l = some hi) {i j a : Nat} (hi' : l[i]? = some (some (.inl a))) (hj : l[j]? = some (some (.inl a))) : i = j := by
  induction l generalizing lo i j with
  | nil => simp at hi'
  | cons f l ih =>
    have key : ∃ lo', okF lo' l = some hi ∧ ∀ b, f = some (.inl b) → b < lo' := by
      match f, h with
      | some (.inl b), h =>
        have h : (match Nat.ble lo b with | true => okF (b + 1) l | false => none) = some hi := h
        split at h
        · exact ⟨b + 1, h, fun c hc => by cases hc; omega⟩
        · cases h
      | some (.inr i), h => exact ⟨lo, h, fun c hc => by cases hc⟩
      | none, h => exact ⟨lo, h, fun c hc => by cases hc⟩
    obtain ⟨lo', hl, hf⟩ := key
    match i, j, hi', hj with
    | 0, 0, _, _ => rfl
    | i + 1, j + 1, hi', hj => exact congrArg Nat.succ (ih hl (by simpa using hi') (by simpa using hj))
    | 0, j + 1, hi', hj =>
      have e : f = some (.inl a) := by simpa using hi'
      have := hf a e
      have := (okF_le hl).2 a (List.mem_of_getElem? (i := j) (by simpa using hj))
      omega
    | i + 1, 0, hi', hj =>
      have e : f = some (.inl a) := by simpa using hj
      have := hf a e
      have := (okF_le hl).2 a (List.mem_of_getElem? (i := i) (by simpa using hi'))
      omega
theorem okC_le {c : LC} {lo h9 : Nat} (h : okC lo c = some h9) : lo ≤ h9 ∧ ∀ a, inC c a → lo ≤ a ∧ a < h9 := by
  match c, h with
  | .inl (x, fl), h => exact okF_le h
  | .inr (k, len, base, w, C, hi), h =>
    have h : (match Nat.ble lo base with | true => some (base + (w + (hi - C))) | false => none) = some h9 := h
    split at h
    · rename_i hb
      have hb := Nat.le_of_ble_eq_true hb
      cases h
      exact ⟨by omega, fun a ha => by have ha : base ≤ a ∧ a < base + (w + (hi - C)) := ha; omega⟩
    · cases h
theorem okR_in {l : List (Option LC)} {lo hi : Nat} (h : okR lo hi l = true) {j : Nat} {d : LC} (hj : l[j]? = some (some d)) {a : Nat} (h1 : lo ≤ a) (h2 : a < hi) (hd : inC d a) : False := by
  induction l generalizing j with
  | nil => simp at hj
  | cons x l ih =>
    match x, h with
    | none, h =>
      match j, hj with
      | j + 1, hj => exact ih h (by simpa using hj)
    | some y, h =>
      have h := and_cases h
      match j, hj with
      | j + 1, hj => exact ih h.2 (by simpa using hj)
      | 0, hj =>
        have e : y = d := by simpa using hj
        subst e
        have h3 := h.1
        split at h3
        · rename_i h9 he
          have h4 := (okC_le he).2 a hd
          cases e1 : Nat.ble h9 lo with
          | true => have := Nat.le_of_ble_eq_true e1; omega
          | false =>
            rw [e1] at h3
            have := Nat.le_of_ble_eq_true (show Nat.ble hi (loC y) = true from h3)
            omega
        · cases h3
theorem okL_ge {l : List (Option LC)} (h : okL l = true) {j : Nat} {c : LC} (hj : l[j]? = some (some c)) : ∃ lo' hi', okC lo' c = some hi' := by
  induction l generalizing j with
  | nil => simp at hj
  | cons x l ih =>
    match x, h with
    | none, h =>
      match j, hj with
      | j + 1, hj => exact ih h (by simpa using hj)
    | some d, h =>
      have h : (match okC (loC d) d with | some hi => okR (loC d) hi l && okL l | none => false) = true := h
      split at h
      · rename_i hi hd
        match j, hj with
        | 0, hj =>
          have e : d = c := by simpa using hj
          subst e
          exact ⟨_, hi, hd⟩
        | j + 1, hj => exact ih (and_cases h).2 (by simpa using hj)
      · cases h
theorem okL_sep {l : List (Option LC)} (h : okL l = true) {i j : Nat} {c d : LC} (hi : l[i]? = some (some c)) (hj : l[j]? = some (some d)) (hij : i < j) {a : Nat} (hc : inC c a) (hd : inC d a) : False := by
  induction l generalizing i j with
  | nil => simp at hi
  | cons x l ih =>
    match x, h with
    | none, h =>
      match i, j, hi, hj with
      | i + 1, j + 1, hi, hj => exact ih h (by simpa using hi) (by simpa using hj) (by omega)
      | 0, _, hi, _ => simp at hi
      | i + 1, 0, _, _ => omega
    | some y, h =>
      have h : (match okC (loC y) y with | some hi => okR (loC y) hi l && okL l | none => false) = true := h
      split at h
      · rename_i hh hy
        have h := and_cases h
        match i, j, hi, hj with
        | 0, j + 1, hi, hj =>
          have e : y = c := by simpa using hi
          subst e
          have h1 := (okC_le hy).2 a hc
          exact okR_in h.1 (j := j) (by simpa using hj) h1.1 h1.2 hd
        | i + 1, j + 1, hi, hj => exact ih h.2 (by simpa using hi) (by simpa using hj) (by omega)
        | i + 1, 0, _, _ => omega
        | 0, 0, _, _ => omega
      · cases h
theorem lfok_M {ρ : List Nat} {M M' : Nat} {f : LF} {v : Value} (hM : ∀ a, f = some (.inl a) → rdX M' a = rdX M a ∨ rdX M' a = 0) (h : lfok ρ M f v) : lfok ρ M' f v := by
  match f, h with
  | some (.inl a), h =>
    obtain ⟨x, hx, h⟩ := h
    refine ⟨x, hx, fun n hn => ?_⟩
    rcases hM a rfl with e | e
    · rw [e] at hn; exact h n hn
    · rw [e] at hn; cases hn
  | some (.inr i), h => exact h
  | none, _ => trivial
theorem F2_monoM {α β : Type} {R R' : α → β → Prop} {l : List α} {m : List β} (hR : ∀ a b, a ∈ l → R a b → R' a b) (h : F2 R l m) : F2 R' l m := by
  induction l generalizing m with
  | nil => rw [F2_nil h]; exact F2_0
  | cons x l ih =>
    obtain ⟨b, m', rfl, h1, h2⟩ := F2_cons h
    exact F2_mk (hR _ _ List.mem_cons_self h1) (ih (fun a b ha => hR a b (List.mem_cons_of_mem _ ha)) h2)
theorem crepV_M {ρ : List Nat} {tys : TY} {M M' : Nat} {c : LC} {e : va_E} (hM : ∀ a, inC c a → rdX M' a = rdX M a ∨ rdX M' a = 0) (h : crepV ρ tys M c e) : crepV ρ tys M' c e := by
  match c, h with
  | .inl (x, fl), h =>
    obtain ⟨fs, he, hF⟩ := h
    exact ⟨fs, he, F2_monoM (fun f v hf hr => lfok_M (fun a ha => hM a (by rw [ha] at hf; exact hf)) hr) hF⟩
  | .inr (k, len, base, w, C, hi), h =>
    obtain ⟨cA, F, t, h1, h2, h3⟩ := h
    refine ⟨cA, F, t, h1, h2, ?_⟩
    rcases Nat.lt_or_ge 1 k with hk1 | hk1
    · match k, hk1, h3 with
      | 2, _, h3 => exact h3
      | n + 3, _, h3 =>
        obtain ⟨f, hf, h3⟩ := (show ∃ f : Nat → Int32, F = .inl f ∧ ∀ i a, aX base w C hi i = a + 1 → ∀ n, rdX M a = n + 1 → f i = nI n from h3)
        refine (show crepA M' (n + 3) len base w C hi F from (show ∃ f : Nat → Int32, F = .inl f ∧ ∀ i a, aX base w C hi i = a + 1 → ∀ n, rdX M' a = n + 1 → f i = nI n from ⟨f, hf, fun i a ha n hn => ?_⟩))
        have hin : inC (.inr (0, len, base, w, C, hi)) a := by
          show base ≤ a ∧ a < base + (w + (hi - C))
          rcases aX_in ha with ⟨h1, h2, h3⟩ | ⟨h1, h2, h3⟩ <;> omega
        rcases hM a hin with e | e
        · rw [e] at hn; exact h3 i a ha n hn
        · rw [e] at hn; cases hn
    obtain ⟨f, hf, h3⟩ := (crepA_int hk1).mp h3
    refine (crepA_int hk1).mpr ⟨f, hf, fun i a ha n hn => ?_⟩
    have hin : inC (.inr (k, len, base, w, C, hi)) a := by
      show base ≤ a ∧ a < base + (w + (hi - C))
      rcases aX_in ha with ⟨h1, h2, h3⟩ | ⟨h1, h2, h3⟩ <;> omega
    rcases hM a hin with e | e
    · rw [e] at hn; exact h3 i a ha n hn
    · rw [e] at hn; cases hn
theorem lfok_more {ρ ρ' : List Nat} (h : ∀ (i a : Nat), ρ[i]? = some a → ρ'[i]? = some a) {M : Nat} {f : LF} {v : Value} (hr : lfok ρ M f v) : lfok ρ' M f v := by
  match f, hr with
  | some (.inl a), hr => exact hr
  | some (.inr i), hr => obtain ⟨a, h1, h2⟩ := hr; exact ⟨a, h _ _ h1, h2⟩
  | none, _ => trivial
theorem crepV_more {ρ ρ' : List Nat} {tys tys' : TY} (h : ∀ (i a : Nat), ρ[i]? = some a → ρ'[i]? = some a) (ht : ∀ (i : Nat) (a : ClassId × FieldType), tys[i]? = some a → tys'[i]? = some a) {M : Nat} {c : LC} {e : va_E} (hr : crepV ρ tys M c e) : crepV ρ' tys' M c e := by
  match c, hr with
  | .inl (x, fl), hr =>
    obtain ⟨fs, he, hF⟩ := hr
    exact ⟨fs, he, F2_mono (fun _ _ q => lfok_more h q) hF⟩
  | .inr (k, len, base, w, C, hi), hr =>
    obtain ⟨cA, F, t, h1, h2, h3⟩ := hr
    exact ⟨cA, F, t, ht _ _ h1, h2, h3⟩
def HRN (LT : List (Option LC)) (N0 : Nat) (D : va_G) (q M : Nat) (A : Nat → Prop) (s : State) (ρ : List Nat) (tys : TY) (H : Heap) (locs : List Loc) : Prop :=
  va_K D vwCl tys s ∧ ∃ ws : va_W, ws.length = N0 + q ∧ ρ = ws.map Prod.fst ∧ va_P D vwCl ws H ∧ va_D A ws ∧ va_S A s.heap H locs ∧ ∀ (j : Nat) (w : Nat × va_E), ws[j]? = some w → ∀ c, LT[j]? = some (some c) → crepV ρ tys M c w.2
theorem ρ_at {ws : va_W} {ρ : List Nat} (h : ρ = ws.map Prod.fst) {i a : Nat} (hi : ρ[i]? = some a) : ∃ e, ws[i]? = some (a, e) := by
  subst h
  rw [List.getElem?_map] at hi
  cases e : ws[i]? with
  | none => rw [e] at hi; cases hi
  | some q =>
    rw [e] at hi
    have : q.1 = a := Option.some.inj hi
    exact ⟨q.2, by rw [← this]⟩
section HN
variable {LT : List (Option LC)} {N0 q M : Nat} {D : va_G} {A : Nat → Prop} {s : State} {ρ : List Nat} {tys : TY} {H : Heap} {locs : List Loc}
/-- less is known -/
theorem HRN_M {M' : Nat} (hM : ∀ (j : Nat) (c : LC), LT[j]? = some (some c) → ∀ a, inC c a → rdX M' a = rdX M a ∨ rdX M' a = 0) (h : HRN LT N0 D q M A s ρ tys H locs) : HRN LT N0 D q M' A s ρ tys H locs := by
  obtain ⟨hK, ws, h0, h1, h2, h3, h4, h5⟩ := h
  exact ⟨hK, ws, h0, h1, h2, h3, h4, fun j w hw c hc => crepV_M (hM j c hc) (h5 j w hw c hc)⟩
theorem HRN_set (hO : okL LT = true) {ws : va_W} {i b : Nat} {en en' : va_E} {c : LC} {M' : Nat} {H1 : Heap} {locs1 : List Loc} (hK : va_K D vwCl tys s) (h0 : ws.length = N0 + q) (h1 : ρ = ws.map Prod.fst) (h5 : ∀ (j : Nat) (w : Nat × va_E), ws[j]? = some w → ∀ c, LT[j]? = some (some c) → crepV ρ tys M c w.2) (hen : ws[i]? = some (b, en)) (hc : LT[i]? = some (some c)) (hcr : crepV ρ tys M' c en') (hM : ∀ a, ¬ inC c a → rdX M' a = rdX M a)
    (hP1 : va_P D vwCl (ws.set i (b, en')) H1) (hD1 : va_D A (ws.set i (b, en'))) (hS1 : va_S A s.heap H1 locs1) : HRN LT N0 D q M' A s ρ tys H1 locs1 := by
  refine ⟨hK, ws.set i (b, en'), by rw [List.length_set]; exact h0, by rw [set_fst hen]; exact h1, hP1, hD1, hS1, fun j w hw d hd => ?_⟩
  rw [List.getElem?_set] at hw
  by_cases hij : i = j
  · subst hij
    rw [if_pos rfl] at hw
    split at hw
    · cases hw
      cases hc.symm.trans hd
      exact hcr
    · cases hw
  · rw [if_neg hij] at hw
    refine crepV_M (fun a ha => Or.inl (hM a (fun hca => ?_))) (h5 j w hw d hd)
    rcases Nat.lt_or_ge i j with h | h
    · exact okL_sep hO hc hd h hca ha
    · exact okL_sep hO hd hc (by omega) ha hca
end HN
