/-! a part of a world, in another order, told in other words -/
def vS (sf : Nat → Option Nat) (v v' : AV) : Bool := match v, v' with
  | .inr (.inr (.inl i)), .inr (.inr (.inl j)) => match sf j with
    | some i' => Nat.beq i' i
    | none => false
  | .inl n, .inl m => Nat.beq n m
  | .inr (.inl n), .inr (.inl m) => Nat.beq n m
  | .inr (.inr (.inr (.inl none))), .inr (.inr (.inr (.inl none))) => true
  | .inr (.inr (.inr (.inl (some n)))), .inr (.inr (.inr (.inl (some m)))) => Nat.beq n m
  | .inr (.inr (.inr (.inr n))), .inr (.inr (.inr (.inr m))) => Nat.beq n m
  | _, _ => false
theorem vS_ok {sf : Nat → Option Nat} {g : GV} {ρ ρ' : List Nat} (hs : ∀ j i, sf j = some i → ∀ a : Nat, ρ[i]? = some a → ρ'[j]? = some a) {v v' : AV} {w : Value} (h : vS sf v v' = true) (hr : vrel g ρ v w) : vrel g ρ' v' w := by
  match v, v', h, hr with
  | .inr (.inr (.inl i)), .inr (.inr (.inl j)), h, hr =>
    have h : (match sf j with
      | some i' => Nat.beq i' i
      | none => false) = true := h
    split at h
    · rename_i i' hi
      have h := Nat.eq_of_beq_eq_true h
      subst h
      obtain ⟨a, ha, rfl⟩ := hr
      exact ⟨a, hs _ _ hi a ha, rfl⟩
    · cases h
  | .inl n, .inl m, h, hr =>
    have h := Nat.eq_of_beq_eq_true h
    subst h
    exact hr
  | .inr (.inl n), .inr (.inl m), h, hr =>
    have h := Nat.eq_of_beq_eq_true h
    subst h
    exact hr
  | .inr (.inr (.inr (.inl none))), .inr (.inr (.inr (.inl none))), _, hr => exact hr
  | .inr (.inr (.inr (.inl (some n)))), .inr (.inr (.inr (.inl (some m)))), h, hr =>
    have h := Nat.eq_of_beq_eq_true h
    subst h
    exact hr
  | .inr (.inr (.inr (.inr n))), .inr (.inr (.inr (.inr m))), h, hr =>
    have h := Nat.eq_of_beq_eq_true h
    subst h
    match n, hr with
    | 0, hr => exact hr
    | 1, hr => exact hr
    | 2, hr => exact hr
    | 3, hr => exact hr
    | n + 4, hr => exact (show False from hr).elim
def lS (sf : Nat → Option Nat) : List AV → List AV → Bool
  | [], [] => true
  | v :: l, v' :: m => vS sf v v' && lS sf l m
  | _, _ => false
theorem lS_ok {sf : Nat → Option Nat} {g : GV} {ρ ρ' : List Nat} (hs : ∀ j i, sf j = some i → ∀ a : Nat, ρ[i]? = some a → ρ'[j]? = some a) : ∀ {vs vs' : List AV} {ws : List Value}, lS sf vs vs' = true → F2 (vrel g ρ) vs ws → F2 (vrel g ρ') vs' ws := by
  intro vs
  induction vs with
  | nil =>
    intro vs' ws h hF
    cases vs' with
    | nil => rw [F2_nil hF]; exact F2_0
    | cons v m => cases h
  | cons v l ih =>
    intro vs' ws h hF
    cases vs' with
    | nil => cases h
    | cons v' m =>
      have h1 := and_cases h
      obtain ⟨w, ws', rfl, hr, hF'⟩ := F2_cons hF
      exact F2_mk (vS_ok hs h1.1 hr) (ih h1.2 hF')
def upS (sf : Nat → Option Nat) (d : AV) (ups : Als) (d' : AV) (ups' : Als) : Als → Bool
  | [] => true
  | q :: l => vS sf (alk d ups q.1) (alk d' ups' q.1) && upS sf d ups d' ups' l
theorem upS_in {sf : Nat → Option Nat} {d d' : AV} {ups ups' : Als} : ∀ {l : Als}, upS sf d ups d' ups' l = true → ∀ q ∈ l, vS sf (alk d ups q.1) (alk d' ups' q.1) = true := by
  intro l
  induction l with
  | nil => intro _ q hq; cases hq
  | cons x l ih =>
    intro h q hq
    have h1 := and_cases h
    rcases List.mem_cons.mp hq with rfl | hq
    · exact h1.1
    · exact ih h1.2 q hq
theorem alk_d {d : AV} {i : Nat} : ∀ {ups : Als}, (∀ q ∈ ups, q.1 ≠ i) → alk d ups i = d := by
  intro ups
  induction ups with
  | nil => intro _; rfl
  | cons q l ih =>
    intro h
    unfold alk
    cases e : Nat.beq q.1 i with
    | true => exact absurd (Nat.eq_of_beq_eq_true e) (h q List.mem_cons_self)
    | false => exact ih (fun q hq => h q (List.mem_cons_of_mem _ hq))
def cS (sf tf : Nat → Option Nat) (c c' : AC) : Bool := match c, c' with
  | .inl (x, vs), .inl (x', vs') => Nat.beq x x' && lS sf vs vs'
  | .inr (k, t, len, ups, d), .inr (k', t', len', ups', d') => Nat.beq k k' && (Nat.beq len len' && ((match tf t' with
    | some t9 => Nat.beq t9 t
    | none => false) && (vS sf d d' && (upS sf d ups d' ups' ups && upS sf d ups d' ups' ups'))))
  | _, _ => false
theorem cS_ok {sf tf : Nat → Option Nat} {g : GV} {ρ ρ' : List Nat} {tys tys' : TY} (hs : ∀ j i, sf j = some i → ∀ a : Nat, ρ[i]? = some a → ρ'[j]? = some a) (ht : ∀ j i, tf j = some i → ∀ q, tys[i]? = some q → tys'[j]? = some q) {c c' : AC} {e : va_E} (h : cS sf tf c c' = true) (hr : crel g ρ tys c e) : crel g ρ' tys' c' e := by
  match c, c', h, hr with
  | .inl (x, vs), .inl (x', vs'), h, hr =>
    have h1 := and_cases h
    have e1 := Nat.eq_of_beq_eq_true h1.1
    subst e1
    obtain ⟨ws, hF, he⟩ := hr
    exact ⟨ws, lS_ok hs h1.2 hF, he⟩
  | .inr (k, t, len, ups, d), .inr (k', t', len', ups', d'), h, hr =>
    have h1 := and_cases h
    have h2 := and_cases h1.2
    have h3 := and_cases h2.2
    have h4 := and_cases h3.2
    have h5 := and_cases h4.2
    have e1 := Nat.eq_of_beq_eq_true h1.1
    have e2 := Nat.eq_of_beq_eq_true h2.1
    subst e1
    subst e2
    obtain ⟨cA, hty, hA⟩ := hr
    have ht' : tys'[t']? = some (cA, kty k) := by
      have h6 := h3.1
      split at h6
      · rename_i t9 h7
        have h6 := Nat.eq_of_beq_eq_true h6
        subst h6
        exact ht _ _ h7 _ hty
      · cases h6
    have key : ∀ i, vS sf (alk d ups i) (alk d' ups' i) = true := by
      intro i
      by_cases c1 : ∃ q ∈ ups, q.1 = i
      · obtain ⟨q, hq, rfl⟩ := c1
        exact upS_in h5.1 q hq
      · by_cases c2 : ∃ q ∈ ups', q.1 = i
        · obtain ⟨q, hq, rfl⟩ := c2
          exact upS_in h5.2 q hq
        · rw [alk_d (fun q hq he => c1 ⟨q, hq, he⟩), alk_d (fun q hq he => c2 ⟨q, hq, he⟩)]
          exact h4.1
    refine ⟨cA, ht', ?_⟩
    match k, hA with
    | 0, ⟨f, he, hv⟩ => exact ⟨f, he, fun i hi => vS_ok hs (key i) (hv i hi)⟩
    | 1, ⟨f, he, hv⟩ => exact ⟨f, he, fun i hi => vS_ok hs (key i) (hv i hi)⟩
    | 2, ⟨f, he, hv⟩ => exact ⟨f, he, fun i hi => vS_ok hs (key i) (hv i hi)⟩
    | n + 3, ⟨f, he, hv⟩ => exact ⟨f, he, fun i hi => vS_ok hs (key i) (hv i hi)⟩
  | .inl _, .inr _, h, _ => cases h
  | .inr _, .inl _, h, _ => cases h
/-- the same cells, told in other words -/
def nS : List AC → List AC → Bool
  | [], [] => true
  | c :: l, c' :: m => cS some some c c' && nS l m
  | _, _ => false
theorem nS_ok {g : GV} {ρ : List Nat} {tys : TY} : ∀ {ah ah' : List AC} {ws : va_W}, nS ah ah' = true → F2 (fun (c : AC) (q : Nat × va_E) => crel g ρ tys c q.2) ah ws → F2 (fun (c : AC) (q : Nat × va_E) => crel g ρ tys c q.2) ah' ws := by
  intro ah
  induction ah with
  | nil =>
    intro ah' ws h hF
    cases ah' with
    | nil => exact hF
    | cons v m => cases h
  | cons v l ih =>
    intro ah' ws h hF
    cases ah' with
    | nil => cases h
    | cons v' m =>
      have h1 := and_cases h
      obtain ⟨w, ws', rfl, hr, hF'⟩ := F2_cons hF
      exact F2_mk (cS_ok (fun j i h a ha => by cases h; exact ha) (fun j i h q hq => by cases h; exact hq) h1.1 hr) (ih h1.2 hF')
theorem HR_norm {g : GV} {D : va_G} {A : Nat → Prop} {s : State} {ρ : List Nat} {tys : TY} {ah ah' : List AC} {H : Heap} {locs : List Loc} (h : nS ah ah' = true) (hR : HR g D A s ρ tys ah H locs) : HR g D A s ρ tys ah' H locs := by
  obtain ⟨hK, ws, e1, hP, hDD, hSS, hW⟩ := hR
  exact ⟨hK, ws, e1, hP, hDD, hSS, nS_ok h hW⟩
/-- a part of the cells, in rising order -/
def sfl (sel : List Nat) : Nat → Option Nat := fun j => sel[j]?
def wS (sf tf : Nat → Option Nat) (ah : List AC) : List Nat → List AC → Bool
  | [], [] => true
  | i :: l, c' :: m => (match ah[i]? with
    | some c => cS sf tf c c'
    | none => false) && wS sf tf ah l m
  | _, _ => false
def risF : Nat → List Nat → Bool
  | _, [] => true
  | a, i :: l => Nat.ble a i && risF (i + 1) l
theorem risF_in : ∀ {l : List Nat} {a : Nat}, risF a l = true → (∀ i ∈ l, a ≤ i) ∧ ∀ j k x : Nat, l[j]? = some x → l[k]? = some x → j = k := by
  intro l
  induction l with
  | nil => intro a _; exact ⟨fun i hi => (by cases hi), fun j k x hj => (by simp at hj)⟩
  | cons i l ih =>
    intro a h
    have h1 := and_cases h
    have h2 := Nat.le_of_ble_eq_true h1.1
    obtain ⟨h3, h4⟩ := ih h1.2
    refine ⟨fun x hx => ?_, fun j k x hj hk => ?_⟩
    · rcases List.mem_cons.mp hx with rfl | hx
      · exact h2
      · have := h3 x hx; omega
    · match j, k, hj, hk with
      | 0, 0, _, _ => rfl
      | j + 1, k + 1, hj, hk => exact congrArg Nat.succ (h4 j k x (by simpa using hj) (by simpa using hk))
      | 0, k + 1, hj, hk =>
        have e : i = x := by simpa using hj
        have := h3 x (List.mem_of_getElem? (i := k) (by simpa using hk))
        omega
      | j + 1, 0, hj, hk =>
        have e : i = x := by simpa using hk
        have := h3 x (List.mem_of_getElem? (i := j) (by simpa using hj))
        omega
theorem wS_in {sf tf : Nat → Option Nat} {ah : List AC} : ∀ {sel : List Nat} {ah' : List AC}, wS sf tf ah sel ah' = true → sel.length = ah'.length ∧ ∀ (j : Nat) (c' : AC), ah'[j]? = some c' → ∃ i c, sel[j]? = some i ∧ ah[i]? = some c ∧ cS sf tf c c' = true := by
  intro sel
  induction sel with
  | nil =>
    intro ah' h
    cases ah' with
    | nil => exact ⟨rfl, fun j c' hj => by simp at hj⟩
    | cons c m => cases h
  | cons i l ih =>
    intro ah' h
    cases ah' with
    | nil => cases h
    | cons c' m =>
      have h1 := and_cases h
      obtain ⟨h2, h3⟩ := ih h1.2
      refine ⟨by rw [List.length_cons, List.length_cons, h2], fun j c9 hj => ?_⟩
      match j, hj with
      | 0, hj =>
        have e : c' = c9 := by simpa using hj
        subst e
        have h4 := h1.1
        split at h4
        · rename_i c hc
          exact ⟨i, c, rfl, hc, h4⟩
        · cases h4
      | j + 1, hj =>
        obtain ⟨i9, c, q1, q2, q3⟩ := h3 j c9 (by simpa using hj)
        exact ⟨i9, c, by simpa using q1, q2, q3⟩
theorem sel_at {α : Type} {l : List α} : ∀ {sel : List Nat}, (∀ i ∈ sel, i < l.length) → ∀ j : Nat, (sel.filterMap (fun i : Nat => l[i]?))[j]? = (sel[j]?).bind (fun i : Nat => l[i]?) := by
  intro sel
  induction sel with
  | nil => intro _ j; simp
  | cons i s ih =>
    intro h j
    have hi : l[i]? = some (l[i]'(h i List.mem_cons_self)) := List.getElem?_eq_getElem (h i List.mem_cons_self)
    rw [List.filterMap_cons_some hi]
    cases j with
    | zero => simp [hi]
    | succ j => simpa using ih (fun x hx => h x (List.mem_cons_of_mem _ hx)) j
theorem HRw_sel {g : GV} {D : va_G} {A : Nat → Prop} {s : State} {ρ : List Nat} {tys : TY} {ah ah' : List AC} {H : Heap} {sel st : List Nat} (hw : HRw g D A ρ tys ah H) (hK : va_K D vwCl tys s) (h1 : wS (sfl sel) (sfl st) ah sel ah' = true) (h2 : risF 0 sel = true) (h3 : st.all (fun t => Nat.blt t tys.length) = true) :
    ∃ (ρ' : List Nat) (tys' : TY), HRw g D A ρ' tys' ah' H ∧ va_K D vwCl tys' s ∧ tys'.length = st.length ∧ ∀ j i, sfl sel j = some i → ∀ a : Nat, ρ[i]? = some a → ρ'[j]? = some a := by
  obtain ⟨ws, e1, hP, hDD, hW⟩ := hw
  subst e1
  have hlen := F2_len hW
  obtain ⟨g1, g2⟩ := wS_in h1
  obtain ⟨r1, r2⟩ := risF_in h2
  have hin : ∀ i ∈ sel, i < ws.length := by
    intro i hi
    obtain ⟨j, hj⟩ := List.getElem?_of_mem hi
    have hj2 := (List.getElem?_eq_some_iff.mp hj).1
    obtain ⟨i', c, q1, q2, -⟩ := g2 j (ah'[j]'(by omega)) (List.getElem?_eq_getElem (by omega))
    cases hj.symm.trans q1
    have := (List.getElem?_eq_some_iff.mp q2).1
    omega
  have htin : ∀ t ∈ st, t < tys.length := fun t ht => Nat.le_of_ble_eq_true (List.all_eq_true.mp h3 t ht)
  have hat := sel_at (l := ws) hin
  have htat := sel_at (l := tys) htin
  have hsel : ∀ j i, sfl sel j = some i → ∀ a : Nat, (ws.map Prod.fst)[i]? = some a → ((sel.filterMap (fun i => ws[i]?)).map Prod.fst)[j]? = some a := by
    intro j i hj a ha
    rw [List.getElem?_map, hat, show sel[j]? = some i from hj]
    rw [List.getElem?_map] at ha
    exact ha
  have hlens : (sel.filterMap (fun i => ws[i]?)).length = sel.length := by
    apply Nat.le_antisymm
    · exact List.length_filterMap_le _ _
    · rcases Nat.lt_or_ge (sel.filterMap (fun i => ws[i]?)).length sel.length with h | h
      · have h9 := hat (sel.filterMap (fun i => ws[i]?)).length
        rw [List.getElem?_eq_none_iff.mpr (Nat.le_refl _), List.getElem?_eq_getElem h] at h9
        have h8 := hin _ (List.getElem_mem h)
        have h9 : none = ws[sel[(sel.filterMap (fun i => ws[i]?)).length]]? := h9
        rw [List.getElem?_eq_getElem h8] at h9
        cases h9
      · exact h
  have hlent : (st.filterMap (fun i => tys[i]?)).length = st.length := by
    apply Nat.le_antisymm
    · exact List.length_filterMap_le _ _
    · rcases Nat.lt_or_ge (st.filterMap (fun i => tys[i]?)).length st.length with h | h
      · have h9 := htat (st.filterMap (fun i => tys[i]?)).length
        rw [List.getElem?_eq_none_iff.mpr (Nat.le_refl _), List.getElem?_eq_getElem h] at h9
        have h8 := htin _ (List.getElem_mem h)
        have h9 : none = tys[st[(st.filterMap (fun i => tys[i]?)).length]]? := h9
        rw [List.getElem?_eq_getElem h8] at h9
        cases h9
      · exact h
  have hback : ∀ (j : Nat) (q : Nat × va_E), (sel.filterMap (fun i => ws[i]?))[j]? = some q → ∃ i, sel[j]? = some i ∧ ws[i]? = some q := by
    intro j q hq
    rw [hat] at hq
    cases e : sel[j]? with
    | none => rw [e] at hq; cases hq
    | some i => rw [e] at hq; exact ⟨i, rfl, hq⟩
  refine ⟨(sel.filterMap (fun i => ws[i]?)).map Prod.fst, st.filterMap (fun i => tys[i]?), ⟨sel.filterMap (fun i => ws[i]?), rfl, fun k q hq => ?_, ⟨fun j k p q hp hq he => ?_, fun k q hq => ?_⟩, F2_idx (by rw [hlens]; exact g1.symm) (fun j c' q hc' hq => ?_)⟩, va_K.sub hK st rfl, hlent, hsel⟩
  · obtain ⟨i, -, hi⟩ := hback k q hq
    exact hP i q hi
  · obtain ⟨i, hi1, hi2⟩ := hback j p hp
    obtain ⟨i', hi3, hi4⟩ := hback k q hq
    have := hDD.1 i i' p q hi2 hi4 he
    subst this
    exact r2 j k i hi1 hi3
  · obtain ⟨i, -, hi⟩ := hback k q hq
    exact hDD.2 i q hi
  · obtain ⟨i, c, q1, q2, q3⟩ := g2 j c' hc'
    obtain ⟨i', hi1, hi2⟩ := hback j q hq
    cases hi1.symm.trans q1
    obtain ⟨b, hb, hr⟩ := F2_get hW q2
    cases hb.symm.trans hi2
    refine cS_ok hsel (fun j t hj q hq => ?_) q3 hr
    rw [htat, show st[j]? = some t from hj]
    exact hq
