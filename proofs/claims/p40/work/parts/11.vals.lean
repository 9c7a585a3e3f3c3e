/-! values as the run by numbers sees them: inl n: the int n; then: the k-th symbol; the cell i; null, or the long n; 0 some reference, 1 some int, 2 the script, 3 the library's empty row -/
abbrev AV : Type := Nat ⊕ Nat ⊕ Nat ⊕ Option Nat ⊕ Nat
abbrev GV : Type := List Int32 × Nat × Nat
abbrev Als : Type := List (Nat × AV)
def vrel (g : GV) (ρ : List Nat) : AV → Value → Prop
  | .inl n, v => v = .int (nI n)
  | .inr (.inl k), v => ∃ x, g.1[k]? = some x ∧ v = .int x
  | .inr (.inr (.inl i)), v => ∃ a, ρ[i]? = some a ∧ v = .ref a
  | .inr (.inr (.inr (.inl none))), v => v = .null
  | .inr (.inr (.inr (.inl (some n)))), v => v = .long (lN n)
  | .inr (.inr (.inr (.inr 0))), v => ∃ a, v = .ref a
  | .inr (.inr (.inr (.inr 1))), v => ∃ x, v = .int x
  | .inr (.inr (.inr (.inr 2))), v => v = .ref g.2.1
  | .inr (.inr (.inr (.inr 3))), v => v = .ref g.2.2
  | .inr (.inr (.inr (.inr _))), _ => False
def isI : AV → Bool
  | .inl _ => true
  | .inr (.inl _) => true
  | .inr (.inr (.inr (.inr 1))) => true
  | _ => false
def isR : AV → Bool
  | .inr (.inr (.inl _)) => true
  | .inr (.inr (.inr (.inr 0))) => true
  | .inr (.inr (.inr (.inr 2))) => true
  | .inr (.inr (.inr (.inr 3))) => true
  | _ => false
def isN : AV → Bool
  | .inr (.inr (.inr (.inl none))) => true
  | _ => false
def acat : AV → Nat
  | .inr (.inr (.inr (.inl (some _)))) => 2
  | _ => 1
theorem vint {g : GV} {ρ : List Nat} {a : AV} {v : Value} (h : isI a = true) (hr : vrel g ρ a v) : ∃ x, v = .int x := by
  match a, h, hr with
  | .inl n, _, hr => exact ⟨_, hr⟩
  | .inr (.inl k), _, hr => obtain ⟨x, -, e⟩ := hr; exact ⟨x, e⟩
  | .inr (.inr (.inr (.inr 1))), _, hr => exact hr
theorem vref {g : GV} {ρ : List Nat} {a : AV} {v : Value} (h : isR a = true) (hr : vrel g ρ a v) : ∃ x, v = .ref x := by
  match a, h, hr with
  | .inr (.inr (.inl k)), _, hr => obtain ⟨x, -, e⟩ := hr; exact ⟨x, e⟩
  | .inr (.inr (.inr (.inr 0))), _, hr => exact hr
  | .inr (.inr (.inr (.inr 2))), _, hr => exact ⟨_, hr⟩
  | .inr (.inr (.inr (.inr 3))), _, hr => exact ⟨_, hr⟩
theorem vnul {g : GV} {ρ : List Nat} {a : AV} {v : Value} (h : isN a = true) (hr : vrel g ρ a v) : v = .null := by
  match a, h, hr with
  | .inr (.inr (.inr (.inl none))), _, hr => exact hr
theorem vcat {g : GV} {ρ : List Nat} {a : AV} {v : Value} (hr : vrel g ρ a v) : v.category = acat a := by
  match a, hr with
  | .inl n, hr => rw [show v = _ from hr]; rfl
  | .inr (.inl k), hr => obtain ⟨x, -, rfl⟩ := hr; rfl
  | .inr (.inr (.inl k)), hr => obtain ⟨x, -, rfl⟩ := hr; rfl
  | .inr (.inr (.inr (.inl none))), hr => rw [show v = _ from hr]; rfl
  | .inr (.inr (.inr (.inl (some n)))), hr => rw [show v = _ from hr]; rfl
  | .inr (.inr (.inr (.inr 0))), hr => obtain ⟨x, rfl⟩ := hr; rfl
  | .inr (.inr (.inr (.inr 1))), hr => obtain ⟨x, rfl⟩ := hr; rfl
  | .inr (.inr (.inr (.inr 2))), hr => rw [show v = _ from hr]; rfl
  | .inr (.inr (.inr (.inr 3))), hr => rw [show v = _ from hr]; rfl
  | .inr (.inr (.inr (.inr (n + 4)))), hr => exact (show False from hr).elim
/-- more cells don't change what is said of a value -/
theorem vrel_more {g : GV} {ρ ρ' : List Nat} (h : ∀ (i a : Nat), ρ[i]? = some a → ρ'[i]? = some a) {a : AV} {v : Value} (hr : vrel g ρ a v) : vrel g ρ' a v := by
  match a, hr with
  | .inl n, hr => exact hr
  | .inr (.inl k), hr => exact hr
  | .inr (.inr (.inl k)), hr => obtain ⟨x, e, rfl⟩ := hr; exact ⟨x, h _ _ e, rfl⟩
  | .inr (.inr (.inr (.inl none))), hr => exact hr
  | .inr (.inr (.inr (.inl (some n)))), hr => exact hr
  | .inr (.inr (.inr (.inr 0))), hr => exact hr
  | .inr (.inr (.inr (.inr 1))), hr => exact hr
  | .inr (.inr (.inr (.inr 2))), hr => exact hr
  | .inr (.inr (.inr (.inr 3))), hr => exact hr
  | .inr (.inr (.inr (.inr (n + 4)))), hr => exact (show False from hr).elim
/-! the bounds of an int -/
def ivl (bnd : List (Nat × Nat)) : AV → Option (Nat × Nat)
  | .inl n => some ((n + 2147483648) % 4294967296, (n + 2147483648) % 4294967296)
  | .inr (.inl k) => bnd[k]?
  | .inr (.inr (.inr (.inr 1))) => some (0, 4294967295)
  | _ => none
def Bd (g : GV) (bnd : List (Nat × Nat)) : Prop := ∀ (k : Nat) (q : Nat × Nat), bnd[k]? = some q → ∀ x, g.1[k]? = some x → q.1 ≤ off x ∧ off x ≤ q.2
theorem ivl_ok {g : GV} {ρ : List Nat} {bnd : List (Nat × Nat)} (hB : Bd g bnd) {a : AV} {v : Value} {q : Nat × Nat} (h : ivl bnd a = some q) (hr : vrel g ρ a v) : ∃ x, v = .int x ∧ q.1 ≤ off x ∧ off x ≤ q.2 := by
  match a, h, hr with
  | .inl n, h, hr =>
    have h : some ((n + 2147483648) % 4294967296, (n + 2147483648) % 4294967296) = some q := h
    have e := Option.some.inj h
    refine ⟨_, hr, ?_⟩
    rw [off_nI, ← e]; exact ⟨Nat.le_refl _, Nat.le_refl _⟩
  | .inr (.inl k), h, hr => obtain ⟨x, e, rfl⟩ := hr; exact ⟨x, rfl, hB k q h x e⟩
  | .inr (.inr (.inr (.inr 1))), h, hr =>
    have h : some (0, 4294967295) = some q := h
    have e := Option.some.inj h
    obtain ⟨x, rfl⟩ := hr
    have := off_lt x
    rw [← e]
    exact ⟨x, rfl, Nat.zero_le _, by show off x ≤ 4294967295; omega⟩
def ilt (i j : Nat × Nat) : Option Bool := if i.2 < j.1 then some true else if j.2 ≤ i.1 then some false else none
def ieq (i j : Nat × Nat) : Option Bool := if i.2 < j.1 then some false else if j.2 < i.1 then some false else if i.1 = i.2 then (if j.1 = j.2 then (if i.1 = j.1 then some true else none) else none) else none
def icmp (c : Jvm.ClassFile.Cond) (i j : Nat × Nat) : Option Bool :=
  match c with
  | .eq => ieq i j
  | .ne => (ieq i j).map (fun b => !b)
  | .lt => ilt i j
  | .ge => (ilt i j).map (fun b => !b)
  | .gt => ilt j i
  | .le => (ilt j i).map (fun b => !b)
def cprop (c : Jvm.ClassFile.Cond) (x y : Int32) : Prop :=
  match c with
  | .eq => x = y
  | .ne => ¬ x = y
  | .lt => x < y
  | .ge => y ≤ x
  | .gt => y < x
  | .le => x ≤ y
theorem ilt_ok {i j : Nat × Nat} {x y : Int32} (hx : i.1 ≤ off x ∧ off x ≤ i.2) (hy : j.1 ≤ off y ∧ off y ≤ j.2) {r : Bool} (h : ilt i j = some r) : x < y ↔ r = true := by
  rw [off_ltI]
  unfold ilt at h
  split at h
  · cases h; simp; omega
  · split at h
    · cases h; simp; omega
    · cases h
theorem ieq_ok {i j : Nat × Nat} {x y : Int32} (hx : i.1 ≤ off x ∧ off x ≤ i.2) (hy : j.1 ≤ off y ∧ off y ≤ j.2) {r : Bool} (h : ieq i j = some r) : x = y ↔ r = true := by
  rw [off_eq]
  unfold ieq at h
  split at h
  · cases h; simp; omega
  · split at h
    · cases h; simp; omega
    · split at h
      · split at h
        · split at h
          · cases h; simp; omega
          · cases h
        · cases h
      · cases h
theorem not_lt32 (x y : Int32) : ¬ x < y ↔ y ≤ x := by rw [off_ltI, off_le]; omega
theorem map_not {o : Option Bool} {r : Bool} (h : o.map (fun b => !b) = some r) : o = some (!r) := by
  cases o with
  | none => cases h
  | some b => simp at h; simp [← h]
theorem icmp_ok {i j : Nat × Nat} {x y : Int32} (hx : i.1 ≤ off x ∧ off x ≤ i.2) (hy : j.1 ≤ off y ∧ off y ≤ j.2) {c : Jvm.ClassFile.Cond} {r : Bool} (h : icmp c i j = some r) : cprop c x y ↔ r = true := by
  cases c with
  | eq => exact ieq_ok hx hy h
  | ne =>
    have := ieq_ok hx hy (map_not h)
    show ¬ x = y ↔ _
    rw [this]; simp
  | lt => exact ilt_ok hx hy h
  | ge =>
    have := ilt_ok hx hy (map_not h)
    show y ≤ x ↔ _
    rw [← not_lt32, this]; simp
  | gt => exact ilt_ok hy hx h
  | le =>
    have := ilt_ok hy hx (map_not h)
    show x ≤ y ↔ _
    rw [← not_lt32, this]; simp
/-! locals -/
def llk : Als → Nat → Option AV
  | [], _ => none
  | q :: l, i => match Nat.beq q.1 i with
    | true => some q.2
    | false => llk l i
def lst (l : Als) (i : Nat) (a : AV) : Als := (i, a) :: l.filter (fun q => !(q.1 == i) && !(q.1 + 1 == i && acat q.2 == 2))
def LR (g : GV) (ρ : List Nat) (nL : Nat) (als : Als) (ls : Array Slot) : Prop := ∃ lv : List (Nat × Value), lv_has ls nL lv ∧ F2 (fun (a : Nat × AV) (q : Nat × Value) => a.1 = q.1 ∧ vrel g ρ a.2 q.2) als lv
theorem llk_mem {als : Als} {i : Nat} {a : AV} (h : llk als i = some a) : ∃ k : Nat, als[k]? = some (i, a) := by
  induction als with
  | nil => cases h
  | cons q l ih =>
    unfold llk at h
    cases hb : Nat.beq q.1 i with
    | true =>
      rw [hb] at h
      have h : some q.2 = some a := h
      cases h
      exact ⟨0, by simp [← Nat.eq_of_beq_eq_true hb]⟩
    | false =>
      rw [hb] at h
      obtain ⟨k, hk⟩ := ih h
      exact ⟨k + 1, by simpa using hk⟩
theorem LR_at {g : GV} {ρ : List Nat} {nL : Nat} {als : Als} {ls : Array Slot} (hL : LR g ρ nL als ls) {i : Nat} {a : AV} (h : llk als i = some a) : ∃ v, ls[i]? = some (.val v) ∧ vrel g ρ a v := by
  obtain ⟨lv, h1, h2⟩ := hL
  obtain ⟨k, hk⟩ := llk_mem h
  obtain ⟨q, hq, e, hr⟩ := F2_get h2 hk
  refine ⟨q.2, lv_at h1 k (i := i) ?_, hr⟩
  rw [hq]
  have e : i = q.1 := e
  rw [e]
theorem LR_st {g : GV} {ρ : List Nat} {als : Als} {lv : List (Nat × Value)} (h : F2 (fun (a : Nat × AV) (q : Nat × Value) => a.1 = q.1 ∧ vrel g ρ a.2 q.2) als lv) (i : Nat) {a : AV} {v : Value} (hr : vrel g ρ a v) :
    F2 (fun (a : Nat × AV) (q : Nat × Value) => a.1 = q.1 ∧ vrel g ρ a.2 q.2) (lst als i a) ((i, v) :: lv.filter (fun q => !(q.1 == i) && !(q.1 + 1 == i && q.2.category == 2))) := by
  refine F2_mk ⟨rfl, hr⟩ (F2_filter (fun x y hxy => ?_) h)
  rw [hxy.1, vcat hxy.2]
theorem LR_more {g : GV} {ρ ρ' : List Nat} (h : ∀ (i a : Nat), ρ[i]? = some a → ρ'[i]? = some a) {nL : Nat} {als : Als} {ls : Array Slot} (hL : LR g ρ nL als ls) : LR g ρ' nL als ls := by
  obtain ⟨lv, h1, h2⟩ := hL
  exact ⟨lv, h1, F2_mono (fun _ _ q => ⟨q.1, vrel_more h q.2⟩) h2⟩
