/-! runs over one number: what they say of the machine. A result: 1 for void, v + 2 for the int v; and the memory behind it -/
def FinN (md : MD) (t _M pc : Nat) (ls : Array Slot) (st : List Value) : Prop :=
  match t with
  | 0 => False
  | 1 => st = [] ∧ mR md = none ∧ decode (mC md) pc = .ok (.return_, 1)
  | v + 2 => st = [.int (nI v)] ∧ retok (mR md) (.inl v) = true ∧ decode (mC md) pc = .ok (.ireturn, 1)
def thr (t : Nat) : Nat := match t with
  | 0 => 1
  | _ => 0
/-- the cells below N0 + q' are the same -/
def ExtP (q' : Nat) (ρ ρ' : List Nat) : Prop := ∀ (i a : Nat), i < N0 + q' → ρ[i]? = some a → ρ'[i]? = some a
theorem ExtP.rf {q' : Nat} {ρ : List Nat} : ExtP q' ρ ρ := fun _ _ _ h => h
theorem ExtP.tr {q q1 q' : Nat} {ρ ρ1 ρ2 : List Nat} (hl : ρ.length = N0 + q) (hc : q' ≤ q1 ∨ q ≤ q1) (h : ExtP q1 ρ ρ1) (h' : ExtP q' ρ1 ρ2) : ExtP q' ρ ρ2 := by
  intro i a hi ha
  have hl2 := (List.getElem?_eq_some_iff.mp ha).1
  exact h' i a hi (h i a (by rcases hc with hc | hc <;> omega) ha)
theorem HRN_len {D : va_G} {q M : Nat} {A : Nat → Prop} {s : State} {ρ : List Nat} {tys : TY} {H : Heap} {locs : List Loc} (h : HRN LT N0 D q M A s ρ tys H locs) : ρ.length = N0 + q := by
  obtain ⟨hK, ws, h0, h1, -⟩ := h
  rw [h1, List.length_map]; exact h0
def KontN (D : va_G) (u q' : Nat) (md : MD) (P : Nat → Nat → Prop) (p : Program) (l : Launch) (e : Env) (R : Room) (s : State) (m : MethodId) (args : Array Value) (below : List Frame) (meth : Method) (c : Code) (cells slots : Nat) (Q : State → Prop) (A : Nat → Prop) (ρ : List Nat) : Prop :=
  ∀ (t M' : Nat), P t M' → ∀ (ρ' : List Nat) (tys' : TY) (H' : Heap) (locs' : List Loc) (pc' : Nat) (ls' : Array Slot) (st' : List Value) (k n : Nat), ExtP q' ρ ρ' → HRN LT N0 D q' M' A s ρ' tys' H' locs' → FinN md t M' pc' ls' st' → k + thr t ≤ cells + u → n + 10 * thr t ≤ slots + 10 * u → W p l e R s m args below meth c H' locs' k n Q (F0 m pc' ls' st')
def SN (l : Launch) (g : GV) (D : va_G) (sl h u q q' mi pc : Nat) (als : Als) (ast : List AV) (M : Nat) (P : Nat → Nat → Prop) : Prop :=
  ∀ (mt : MT), TB[mi]? = some mt → ∀ (dep : Nat), h ≤ dep → ∀ (p : Program) (e : Env) (R : Room) (s : State) (m : MethodId) (args : Array Value) (below : List Frame) (meth : Method) (c : Code) (H : Heap) (locs : List Loc) (cells slots : Nat) (Q : State → Prop) (A : Nat → Prop) (ρ : List Nat) (tys : TY) (ls : Array Slot) (st : List Value),
    Ctx WB AD SR FW g sl mt.1 dep mi p l R s m args meth c A → HRN LT N0 D q M A s ρ tys H locs → LR g ρ (mL mt.1) als ls → F2 (vrel g ρ) ast st → cells + u ≤ R.cells → slots + 10 * u ≤ R.slots →
    KontN D u q' mt.1 P p l e R s m args below meth c cells slots Q A ρ →
    W p l e R s m args below meth c H locs cells slots Q (F0 m pc ls st)
abbrev RN : Type := Option (Nat × Nat)
abbrev KN : Type := Nat → Als → List AV → Nat → RN
abbrev CCN : Type := Nat → Als → Nat → RN
abbrev StepN : Type := CCN → KN → KN
theorem take_at {α : Type} {l : List α} {n k : Nat} {q : α} (h : (l.take n)[k]? = some q) : l[k]? = some q := by
  rw [List.getElem?_take] at h
  split at h
  · exact h
  · cases h
theorem LR_gen {g : GV} {als : Als} {ρ : List Nat} {nL : Nat} {als' : Als} {ls : Array Slot} (h : ∀ q ∈ als', ∃ a, llk als q.1 = some a ∧ ∀ (ρ : List Nat) (v : Value), vrel g ρ a v → vrel g ρ q.2 v) (hL : LR g ρ nL als ls) : LR g ρ nL als' ls := by
  have h1 : ∀ q ∈ als', ∃ v, ls[q.1]? = some (.val v) ∧ vrel g ρ q.2 v := fun q hq => by
    obtain ⟨a, h2, h3⟩ := h q hq
    obtain ⟨v, h4, h5⟩ := LR_at hL h2
    exact ⟨v, h4, h3 _ _ h5⟩
  obtain ⟨lv, ⟨a1, a2, -⟩, -⟩ := hL
  have key : ∃ lv' : List (Nat × Value), (∀ q ∈ lv', ls[q.1]? = some (.val q.2)) ∧ F2 (fun (a : Nat × AV) (q : Nat × Value) => a.1 = q.1 ∧ vrel g ρ a.2 q.2) als' lv' := by
    clear h
    induction als' with
    | nil => exact ⟨[], (fun q hq => by cases hq), F2_0⟩
    | cons x l ih =>
      obtain ⟨lv', b1, b2⟩ := ih (fun q hq => h1 q (List.mem_cons_of_mem _ hq))
      obtain ⟨v, c1, c2⟩ := h1 x List.mem_cons_self
      refine ⟨(x.1, v) :: lv', fun q hq => ?_, F2_mk ⟨rfl, c2⟩ b2⟩
      rcases List.mem_cons.mp hq with rfl | hq
      · exact c1
      · exact b1 q hq
  obtain ⟨lv', b1, b2⟩ := key
  exact ⟨lv', ⟨a1, a2, b1⟩, b2⟩
theorem vrel_cut {g : GV} {ρ ρ0 : List Nat} {a : AV} {v : Value} {n : Nat} (hρ : ∀ (i a : Nat), ρ0[i]? = some a ↔ i < n ∧ ρ[i]? = some a) (ha : ∀ i, a = .inr (.inr (.inl i)) → i < n) (hr : vrel g ρ a v) : vrel g ρ0 a v := by
  match a, ha, hr with
  | .inl n, _, hr => exact hr
  | .inr (.inl k), _, hr => exact hr
  | .inr (.inr (.inl k)), ha, hr => obtain ⟨x, e, rfl⟩ := hr; exact ⟨x, (hρ _ _).mpr ⟨ha k rfl, e⟩, rfl⟩
  | .inr (.inr (.inr (.inl none))), _, hr => exact hr
  | .inr (.inr (.inr (.inl (some n)))), _, hr => exact hr
  | .inr (.inr (.inr (.inr 0))), _, hr => exact hr
  | .inr (.inr (.inr (.inr 1))), _, hr => exact hr
  | .inr (.inr (.inr (.inr 2))), _, hr => exact hr
  | .inr (.inr (.inr (.inr 3))), _, hr => exact hr
  | .inr (.inr (.inr (.inr (n + 4)))), _, hr => exact (show False from hr).elim
theorem LR_cut {g : GV} {ρ ρ0 : List Nat} {n nL : Nat} {als : Als} {ls : Array Slot} (hρ : ∀ (i a : Nat), ρ0[i]? = some a ↔ i < n ∧ ρ[i]? = some a) (hl : ∀ x ∈ als, ∀ i, x.2 = .inr (.inr (.inl i)) → i < n) (hL : LR g ρ nL als ls) : LR g ρ0 nL als ls := by
  obtain ⟨lv, h1, h2⟩ := hL
  exact ⟨lv, h1, F2_monoM (fun a b ha hr => ⟨hr.1, vrel_cut hρ (hl a ha) hr.2⟩) h2⟩
theorem crepV_cut {ρ ρ0 : List Nat} {tys : TY} {M n : Nat} {c : LC} {e : va_E} (hρ : ∀ (i a : Nat), ρ0[i]? = some a ↔ i < n ∧ ρ[i]? = some a) (hc : ∀ x fl, c = .inl (x, fl) → ∀ i, some (Sum.inr i) ∈ fl → i < n) (h : crepV ρ tys M c e) : crepV ρ0 tys M c e := by
  match c, hc, h with
  | .inl (x, fl), hc, h =>
    obtain ⟨fs, he, hF⟩ := h
    refine ⟨fs, he, F2_monoM (fun f v hf hr => ?_) hF⟩
    match f, hf, hr with
    | some (.inl a), _, hr => exact hr
    | some (.inr i), hf, hr => obtain ⟨a, h1, h2⟩ := hr; exact ⟨a, (hρ _ _).mpr ⟨hc x fl rfl i hf, h1⟩, h2⟩
    | none, _, _ => trivial
  | .inr (k, len, base, w, C, hi), _, h => exact h
/-- the cells name only cells of the first N0 -/
def refOK : Option LC → Bool
  | some (.inl (_, fl)) => fl.all (fun f => match f with
    | some (.inr i) => Nat.blt i N0
    | _ => true)
  | _ => true
theorem LT_refs : LT.all refOK = true := by decide +kernel
theorem LT_ref {j n : Nat} {c : LC} (hc : LT[j]? = some (some c)) (_ : j < N0 + n) : ∀ x fl, c = .inl (x, fl) → ∀ i, some (Sum.inr i) ∈ fl → i < N0 + n := by
  intro x fl e i hi
  subst e
  have h1 := List.all_eq_true.mp LT_refs _ (List.mem_of_getElem? hc)
  have h2 := List.all_eq_true.mp h1 _ hi
  have h3 : i < N0 := Nat.le_of_ble_eq_true h2
  omega
section SND
variable {l : Launch} {g : GV} {D : va_G} {sl h u q q' mi pc : Nat} {als : Als} {ast : List AV} {M : Nat} {P : Nat → Nat → Prop}
theorem KontN.mono {p : Program} {e : Env} {R : Room} {s : State} {m : MethodId} {args : Array Value} {below : List Frame} {meth : Method} {c : Code} {cells slots : Nat} {Q : State → Prop} {A : Nat → Prop} {ρ : List Nat} {md : MD} {P' : Nat → Nat → Prop} (hP : ∀ t M', P' t M' → P t M') (k : KontN D u q' md P p l e R s m args below meth c cells slots Q A ρ) : KontN D u q' md P' p l e R s m args below meth c cells slots Q A ρ :=
  fun t M' hp => k t M' (hP t M' hp)
theorem SN.post {P' : Nat → Nat → Prop} (hP : ∀ t M', P t M' → P' t M') (k : SN l g D sl h u q q' mi pc als ast M P) : SN l g D sl h u q q' mi pc als ast M P' :=
  fun mt hmt dep hd p e R s m args below meth c H locs cells slots Q A ρ tys ls st C hR hL hS hu hv K => k mt hmt dep hd p e R s m args below meth c H locs cells slots Q A ρ tys ls st C hR hL hS hu hv (K.mono hP)
theorem SN.hup {h' : Nat} (hh : h ≤ h') (k : SN l g D sl h u q q' mi pc als ast M P) : SN l g D sl h' u q q' mi pc als ast M P :=
  fun mt hmt dep hd => k mt hmt dep (Nat.le_trans hh hd)
theorem SN.uup {u' : Nat} (hh : u ≤ u') (k : SN l g D sl h u q q' mi pc als ast M P) : SN l g D sl h u' q q' mi pc als ast M P :=
  fun mt hmt dep hd p e R s m args below meth c H locs cells slots Q A ρ tys ls st C hR hL hS hu hv K => k mt hmt dep hd p e R s m args below meth c H locs cells slots Q A ρ tys ls st C hR hL hS (by omega) (by omega) (fun t M' hp ρ' tys' H' locs' pc' ls' st' k n hE hR' hF hk hn => K t M' hp ρ' tys' H' locs' pc' ls' st' k n hE hR' hF (by omega) (by omega))
/-- a part of what is known -/
theorem SN.less {M' : Nat} (hM : ∀ (j : Nat) (c : LC), LT[j]? = some (some c) → ∀ a, inC c a → rdX M' a = rdX M a ∨ rdX M' a = 0) (k : SN l g D sl h u q q' mi pc als ast M' P) : SN l g D sl h u q q' mi pc als ast M P :=
  fun mt hmt dep hd p e R s m args below meth c H locs cells slots Q A ρ tys ls st C hR hL hS hu hv K => k mt hmt dep hd p e R s m args below meth c H locs cells slots Q A ρ tys ls st C (HRN_M hM hR) hL hS hu hv K
theorem LR_sub {ρ : List Nat} {nL : Nat} {als' : Als} {ls : Array Slot} (h : ∀ q ∈ als', llk als q.1 = some q.2) (hL : LR g ρ nL als ls) : LR g ρ nL als' ls := by
  have h1 : ∀ q ∈ als', ∃ v, ls[q.1]? = some (.val v) ∧ vrel g ρ q.2 v := fun q hq => LR_at hL (h q hq)
  obtain ⟨lv, ⟨a1, a2, -⟩, -⟩ := hL
  have key : ∃ lv' : List (Nat × Value), (∀ q ∈ lv', ls[q.1]? = some (.val q.2)) ∧ F2 (fun (a : Nat × AV) (q : Nat × Value) => a.1 = q.1 ∧ vrel g ρ a.2 q.2) als' lv' := by
    clear h
    induction als' with
    | nil => exact ⟨[], (fun q hq => by cases hq), F2_0⟩
    | cons x l ih =>
      obtain ⟨lv', b1, b2⟩ := ih (fun q hq => h1 q (List.mem_cons_of_mem _ hq))
      obtain ⟨v, c1, c2⟩ := h1 x List.mem_cons_self
      refine ⟨(x.1, v) :: lv', fun q hq => ?_, F2_mk ⟨rfl, c2⟩ b2⟩
      rcases List.mem_cons.mp hq with rfl | hq
      · exact c1
      · exact b1 q hq
  obtain ⟨lv', b1, b2⟩ := key
  exact ⟨lv', ⟨a1, a2, b1⟩, b2⟩
theorem SN.sub {als' : Als} (hl : ∀ q ∈ als', llk als q.1 = some q.2) (k : SN l g D sl h u q q' mi pc als' ast M P) : SN l g D sl h u q q' mi pc als ast M P :=
  fun mt hmt dep hd p e R s m args below meth c H locs cells slots Q A ρ tys ls st C hR hL hS hu hv K => k mt hmt dep hd p e R s m args below meth c H locs cells slots Q A ρ tys ls st C hR (LR_sub hl hL) hS hu hv K
/-- more is known of the locals and of the stack than is wanted -/
theorem SN.gen {als' : Als} {ast' : List AV} (hl : ∀ q ∈ als', ∃ a, llk als q.1 = some a ∧ ∀ (ρ : List Nat) (v : Value), vrel g ρ a v → vrel g ρ q.2 v) (hs : ∀ ρ : List Nat, ∀ st, F2 (vrel g ρ) ast st → F2 (vrel g ρ) ast' st) (k : SN l g D sl h u q q' mi pc als' ast' M P) : SN l g D sl h u q q' mi pc als ast M P :=
  fun mt hmt dep hd p e R s m args below meth c H locs cells slots Q A ρ tys ls st C hR hL hS hu hv K => k mt hmt dep hd p e R s m args below meth c H locs cells slots Q A ρ tys ls st C hR (LR_gen hl hL) (hs _ _ hS) hu hv K
/-- some int on the stack: whatever it is -/
theorem SN.unk1 {b : AV} {rest : List AV} (k : ∀ n : Nat, SN l g D sl h u q q' mi pc als (b :: .inl n :: rest) M P) : SN l g D sl h u q q' mi pc als (b :: .inr (.inr (.inr (.inr 1))) :: rest) M P := by
  intro mt hmt dep hd p e R s m args below meth c H locs cells slots Q A ρ tys ls st C hR hL hS hu hv K
  obtain ⟨v0, s0, rfl, hr0, hS0⟩ := F2_cons hS
  obtain ⟨v1, s1, rfl, hr1, hS1⟩ := F2_cons hS0
  obtain ⟨x, rfl⟩ := hr1
  exact k (i2n x.toInt) mt hmt dep hd p e R s m args below meth c H locs cells slots Q A ρ tys ls _ C hR hL (F2_mk hr0 (F2_mk (show Value.int x = Value.int (nI (i2n x.toInt)) by rw [← i2n_ok, Int32.ofInt_toInt]) hS1)) hu hv K
/-- the objects behind N0 + q0 are of no more use -/
theorem SN.drop {q0 : Nat} (hq : q0 ≤ q) (hq' : q' ≤ q0) (hl : ∀ x ∈ als, ∀ i, x.2 = .inr (.inr (.inl i)) → i < N0 + q0) (hst : ast = []) (k : SN l g D sl h u q0 q' mi pc als ast M P) : SN l g D sl h u q q' mi pc als ast M P := by
  intro mt hmt dep hd p e R s m args below meth c H locs cells slots Q A ρ tys ls st C hR hL hS hu hv K
  subst hst
  have hρ : ∀ (i a : Nat), (ρ.take (N0 + q0))[i]? = some a ↔ i < N0 + q0 ∧ ρ[i]? = some a := by
    intro i a
    rw [List.getElem?_take]
    split
    · rename_i h; exact ⟨fun z => ⟨h, z⟩, fun z => z.2⟩
    · rename_i h; exact ⟨(fun z => by cases z), (fun z => absurd z.1 h)⟩
  have hR' : HRN LT N0 D q0 M A s (ρ.take (N0 + q0)) tys H locs := by
    obtain ⟨hK, ws, h0, h1, h2, h3, h4, h5⟩ := hR
    refine ⟨hK, ws.take (N0 + q0), by rw [List.length_take]; omega, by rw [h1, List.map_take], (fun k q hq => h2 k q (take_at hq)), ⟨fun i j p q hp hq => h3.1 i j p q (take_at hp) (take_at hq), fun k q hq => h3.2 k q (take_at hq)⟩, h4, fun j w hw c hc => ?_⟩
    rw [List.getElem?_take] at hw
    split at hw
    · rename_i hj
      exact crepV_cut hρ (LT_ref hc hj) (h5 j w hw c hc)
    · cases hw
  refine k mt hmt dep hd p e R s m args below meth c H locs cells slots Q A _ tys ls st C hR' (LR_cut hρ hl hL) (by rw [F2_nil hS]; exact F2_0) hu hv (fun t M' hp ρ' tys' H' locs' pc' ls' st' k n hE hR' hF hk hn => K t M' hp ρ' tys' H' locs' pc' ls' st' k n (fun i a hi ha => hE i a hi ((hρ i a).mpr ⟨by omega, ha⟩)) hR' hF hk hn)
end SND
def KSnd (l : Launch) (g : GV) (D : va_G) (sl h u q q' mi : Nat) (Pf : Nat × Nat → Nat → Nat → Prop) (rc : KN) : Prop := ∀ (pc : Nat) (als : Als) (ast : List AV) (M : Nat) (r : Nat × Nat), rc pc als ast M = some r → SN l g D sl h u q q' mi pc als ast M (Pf r)
def CSnd (l : Launch) (g : GV) (D : va_G) (sl h : Nat) (cc : CCN) : Prop := ∀ (x : Nat) (als : Als) (M : Nat) (r : Nat × Nat), cc x als M = some r → x ≠ 0 ∧ ∀ q, SN l g D sl h 0 q q x 0 als [] M (fun t M' => r = (t, M'))
def SOKN (l : Launch) (g : GV) (D : va_G) (sl h u q q' mi : Nat) (Pf : Nat × Nat → Nat → Nat → Prop) (pc : Nat) (F : StepN) : Prop := ∀ (cc : CCN) (rc : KN), CSnd l g D sl h cc → KSnd l g D sl (h + 1) u q q' mi Pf rc → ∀ (als : Als) (ast : List AV) (M : Nat) (r : Nat × Nat), F cc rc pc als ast M = some r → SN l g D sl (h + 1) u q q' mi pc als ast M (Pf r)
/-! what is evaluated at once -/
noncomputable def fK (e : Nat) (k : Nat → RN) : RN := @Nat.rec (fun _ => RN) none (fun n _ => k n) (Nat.add e 1)
noncomputable def rK (M a : Nat) (k : Nat → RN) : RN := @Nat.rec (fun _ => RN) none (fun n _ => k n) (rdX M a)
noncomputable def bK (c : Bool) (t f : RN) : RN := @Bool.rec (fun _ => RN) f t c
noncomputable def cK (o : RN) (k : Nat → Nat → RN) : RN := @Option.rec (Nat × Nat) (fun _ => RN) none (fun p => @Prod.rec Nat Nat (fun _ => RN) k p) o
noncomputable def cI (o : RN) (k : Nat → Nat → RN) : RN := cK o (fun t M => @Nat.rec (fun _ => RN) none (fun t' _ => @Nat.rec (fun _ => RN) none (fun v _ => k v M) t') t)
noncomputable def cV (o : RN) (k : Nat → RN) : RN := cK o (fun t M => @Nat.rec (fun _ => RN) none (fun t' _ => @Nat.rec (fun _ => RN) (k M) (fun _ _ => none) t') t)
theorem fK_eq (e : Nat) (k : Nat → RN) : fK e k = k e := rfl
theorem rK_in {M a : Nat} {k : Nat → RN} {r : Nat × Nat} (h : rK M a k = some r) : ∃ n, rdX M a = n + 1 ∧ k n = some r := by
  unfold rK at h
  cases e : rdX M a with
  | zero => rw [e] at h; cases h
  | succ n => rw [e] at h; exact ⟨n, rfl, h⟩
theorem bK_in {c : Bool} {t f : RN} {r : Nat × Nat} (h : bK c t f = some r) : (c = true ∧ t = some r) ∨ (c = false ∧ f = some r) := by
  cases c with
  | true => exact Or.inl ⟨rfl, h⟩
  | false => exact Or.inr ⟨rfl, h⟩
theorem bK_t {c : Bool} {t : RN} {r : Nat × Nat} (h : bK c t none = some r) : c = true ∧ t = some r := by
  cases c with
  | true => exact ⟨rfl, h⟩
  | false => cases h
theorem cI_in {o : RN} {k : Nat → Nat → RN} {r : Nat × Nat} (h : cI o k = some r) : ∃ v M, o = some (v + 2, M) ∧ k v M = some r := by
  match o, h with
  | some (0, M), h => cases h
  | some (1, M), h => cases h
  | some (v + 2, M), h => exact ⟨v, M, rfl, h⟩
theorem cV_in {o : RN} {k : Nat → RN} {r : Nat × Nat} (h : cV o k = some r) : ∃ M, o = some (1, M) ∧ k M = some r := by
  match o, h with
  | some (0, M), h => cases h
  | some (1, M), h => exact ⟨M, rfl, h⟩
  | some (v + 2, M), h => cases h
/-! the steps -/
def nC (n len : Nat) : StepN := fun _ rc pc als ast M => rc (pc + len) als (.inl n :: ast) M
def nLd (i len : Nat) (ok : AV → Bool) : StepN := fun _ rc pc als ast M => match llk als i with
  | some a => match ok a with
    | true => rc (pc + len) als (a :: ast) M
    | false => none
  | none => none
def nSt (nL i len : Nat) (ok : AV → Bool) : StepN := fun _ rc pc als ast M => match ast with
  | a :: rest => match ok a with
    | true => match Nat.blt i nL with
      | true => rc (pc + len) (lst als i a) rest M
      | false => none
    | false => none
  | [] => none
noncomputable def nInc (nL i n : Nat) : StepN := fun _ rc pc als ast M => match llk als i with
  | some (.inl v) => match Nat.blt i nL with
    | true => fK (Nat.mod (Nat.add v n) 4294967296) (fun w => rc (pc + 3) (lst als i (.inl w)) ast M)
    | false => none
  | _ => none
noncomputable def nBin (f : Nat → Nat → Nat) : StepN := fun _ rc pc als ast M => match ast with
  | .inl b :: .inl a :: rest => fK (f a b) (fun v => rc (pc + 1) als (.inl v :: rest) M)
  | _ => none
def oAdd (a b : Nat) : Nat := Nat.mod (Nat.add a b) 4294967296
def oSub (a b : Nat) : Nat := Nat.mod (Nat.add a (Nat.sub 4294967296 (Nat.mod b 4294967296))) 4294967296
def oMul (a b : Nat) : Nat := Nat.mod (Nat.mul a b) 4294967296
def oAnd (a b : Nat) : Nat := Nat.land (Nat.mod a 4294967296) (Nat.mod b 4294967296)
def oOr (a b : Nat) : Nat := Nat.lor (Nat.mod a 4294967296) (Nat.mod b 4294967296)
def oXor (a b : Nat) : Nat := Nat.xor (Nat.mod a 4294967296) (Nat.mod b 4294967296)
def oShl (a b : Nat) : Nat := Nat.mod (Nat.shiftLeft a (Nat.mod b 32)) 4294967296
def oUshr (a b : Nat) : Nat := Nat.shiftRight (Nat.mod a 4294967296) (Nat.mod b 32)
noncomputable def nNeg : StepN := fun _ rc pc als ast M => match ast with
  | .inl a :: rest => fK (Nat.mod (Nat.sub 4294967296 (Nat.mod a 4294967296)) 4294967296) (fun v => rc (pc + 1) als (.inl v :: rest) M)
  | _ => none
noncomputable def nShr : StepN := fun _ rc pc als ast M => match ast with
  | .inl b :: .inl a :: rest => bK (Nat.ble (Nat.add a 1) 2147483648) (fK (Nat.shiftRight a (Nat.mod b 32)) (fun v => rc (pc + 1) als (.inl v :: rest) M)) none
  | _ => none
noncomputable def nDR (f : Nat → Nat → Nat) : StepN := fun _ rc pc als ast M => match ast with
  | .inl b :: .inl a :: rest => bK (Nat.ble (Nat.add a 1) 2147483648) (bK (Nat.ble (Nat.add b 1) 2147483648) (bK (Nat.ble 1 b) (fK (f a b) (fun v => rc (pc + 1) als (.inl v :: rest) M)) none) none) none
  | _ => none
def nDup : StepN := fun _ rc pc als ast M => match ast with
  | a :: rest => match Nat.beq (acat a) 1 with
    | true => rc (pc + 1) als (a :: a :: rest) M
    | false => none
  | _ => none
def nDupX : StepN := fun _ rc pc als ast M => match ast with
  | a :: b :: rest => match Nat.beq (acat a) 1 && Nat.beq (acat b) 1 with
    | true => rc (pc + 1) als (a :: b :: a :: rest) M
    | false => none
  | _ => none
def nDup2 : StepN := fun _ rc pc als ast M => match ast with
  | a :: b :: rest => match Nat.beq (acat a) 1 && Nat.beq (acat b) 1 with
    | true => rc (pc + 1) als (a :: b :: a :: b :: rest) M
    | false => none
  | _ => none
def nPop : StepN := fun _ rc pc als ast M => match ast with
  | a :: rest => match Nat.beq (acat a) 1 with
    | true => rc (pc + 1) als rest M
    | false => none
  | _ => none
def nGo (t : Nat) : StepN := fun _ rc _ als ast M => rc t als ast M
def cN (c : Jvm.ClassFile.Cond) (a b : Nat) : Bool := match c with
  | .eq => Nat.beq (Nat.mod a 4294967296) (Nat.mod b 4294967296)
  | .ne => !(Nat.beq (Nat.mod a 4294967296) (Nat.mod b 4294967296))
  | .lt => Nat.ble (Nat.add (Nat.mod (Nat.add a 2147483648) 4294967296) 1) (Nat.mod (Nat.add b 2147483648) 4294967296)
  | .ge => Nat.ble (Nat.mod (Nat.add b 2147483648) 4294967296) (Nat.mod (Nat.add a 2147483648) 4294967296)
  | .gt => Nat.ble (Nat.add (Nat.mod (Nat.add b 2147483648) 4294967296) 1) (Nat.mod (Nat.add a 2147483648) 4294967296)
  | .le => Nat.ble (Nat.mod (Nat.add a 2147483648) 4294967296) (Nat.mod (Nat.add b 2147483648) 4294967296)
def cZ (c : Jvm.ClassFile.Cond) (a : Nat) : Bool := match c with
  | .eq => Nat.beq (Nat.mod a 4294967296) 0
  | .ne => !(Nat.beq (Nat.mod a 4294967296) 0)
  | .lt => Nat.ble 2147483648 (Nat.mod a 4294967296)
  | .ge => Nat.ble (Nat.add (Nat.mod a 4294967296) 1) 2147483648
  | .gt => Nat.ble 2147483649 (Nat.mod (Nat.add a 2147483648) 4294967296)
  | .le => Nat.ble (Nat.mod (Nat.add a 2147483648) 4294967296) 2147483648
noncomputable def nIf (c : Nat → Bool) (t : Nat) : StepN := fun _ rc pc als ast M => match ast with
  | .inl a :: rest => bK (c a) (rc t als rest M) (rc (pc + 3) als rest M)
  | _ => none
noncomputable def nIc (c : Nat → Nat → Bool) (t : Nat) : StepN := fun _ rc pc als ast M => match ast with
  | .inl b :: .inl a :: rest => bK (c a b) (rc t als rest M) (rc (pc + 3) als rest M)
  | _ => none
noncomputable def nGI (i a : Nat) : StepN := fun _ rc pc als ast M => match ast with
  | .inr (.inr (.inl j)) :: rest => bK (Nat.beq j i) (rK M a (fun v => rc (pc + 3) als (.inl v :: rest) M)) none
  | _ => none
noncomputable def nGR (i r : Nat) : StepN := fun _ rc pc als ast M => match ast with
  | .inr (.inr (.inl j)) :: rest => bK (Nat.beq j i) (rc (pc + 3) als (.inr (.inr (.inl r)) :: rest) M) none
  | _ => none
noncomputable def nPI (i a : Nat) : StepN := fun _ rc pc als ast M => match ast with
  | .inl v :: .inr (.inr (.inl j)) :: rest => bK (Nat.beq j i) (fK (wrX M a v) (fun M' => rc (pc + 3) als rest M')) none
  | _ => none
noncomputable def nPB (i a : Nat) : StepN := fun _ rc pc als ast M => match ast with
  | .inl v :: .inr (.inr (.inl j)) :: rest => bK (Nat.beq j i) (bK (Nat.ble v 1) (fK (wrX M a v) (fun M' => rc (pc + 3) als rest M')) none) none
  | _ => none
/-- the place of an index: side by side from base on, or in two pieces -/
noncomputable def nIA (i base w : Nat) : StepN := fun _ rc pc als ast M => match ast with
  | .inl n :: .inr (.inr (.inl j)) :: rest => bK (Nat.beq j i) (bK (Nat.ble (Nat.add n 1) w) (rK M (Nat.add base n) (fun v => rc (pc + 1) als (.inl v :: rest) M)) none) none
  | _ => none
noncomputable def nIS (i base w : Nat) : StepN := fun _ rc pc als ast M => match ast with
  | .inl v :: .inl n :: .inr (.inr (.inl j)) :: rest => bK (Nat.beq j i) (bK (Nat.ble (Nat.add n 1) w) (fK (wrX M (Nat.add base n) v) (fun M' => rc (pc + 1) als rest M')) none) none
  | _ => none
noncomputable def nBS (i base w : Nat) : StepN := fun _ rc pc als ast M => match ast with
  | .inl v :: .inl n :: .inr (.inr (.inl j)) :: rest => bK (Nat.beq j i) (bK (Nat.ble (Nat.add n 1) w) (bK (Nat.ble v 1) (fK (wrX M (Nat.add base n) v) (fun M' => rc (pc + 1) als rest M')) none) none) none
  | _ => none
/-- an address, if there is one -/
noncomputable def aK (e : Nat) (k : Nat → RN) : RN := @Nat.rec (fun _ => RN) none (fun a _ => k a) e
noncomputable def nIA2 (i base w C hi : Nat) : StepN := fun _ rc pc als ast M => match ast with
  | .inl n :: .inr (.inr (.inl j)) :: rest => bK (Nat.beq j i) (aK (aX base w C hi n) (fun a => rK M a (fun v => rc (pc + 1) als (.inl v :: rest) M))) none
  | _ => none
noncomputable def nIS2 (i base w C hi : Nat) : StepN := fun _ rc pc als ast M => match ast with
  | .inl v :: .inl n :: .inr (.inr (.inl j)) :: rest => bK (Nat.beq j i) (aK (aX base w C hi n) (fun a => fK (wrX M a v) (fun M' => rc (pc + 1) als rest M'))) none
  | _ => none
noncomputable def nCp (i base w C hi : Nat) : StepN := fun _ rc pc als ast M => match ast with
  | .inl n :: .inl dp :: .inr (.inr (.inl j)) :: .inl sp :: .inr (.inr (.inl j')) :: rest => bK (Nat.beq j i) (bK (Nat.beq j' i) (bK (Nat.ble (acats rest) 8) (aK (aS base w C hi sp n) (fun a => aK (aS base w C hi dp n) (fun b => fK (cpX M a b n) (fun M' => rc (pc + 3) als rest M')))) none) none) none
  | _ => none
theorem aK_in {e : Nat} {k : Nat → RN} {r : Nat × Nat} (h : aK e k = some r) : ∃ a, e = a + 1 ∧ k a = some r := by
  cases e with
  | zero => cases h
  | succ a => exact ⟨a, rfl, h⟩
def nAL (i len : Nat) : StepN := fun _ rc pc als ast M => match ast with
  | .inr (.inr (.inl j)) :: rest => match Nat.beq j i with
    | true => rc (pc + 1) als (.inl len :: rest) M
    | false => none
  | _ => none
/-- whether a call may be made: vk 0 static, 1 of an object of the class y -/
def rcvN (vk y : Nat) (args : List AV) : Bool := match vk with
  | 0 => true
  | _ => match args with
    | .inr (.inr (.inl i)) :: _ => match LT[i]? with
      | some (some (.inl (x, _))) => Nat.beq x y
      | _ => false
    | _ => false
def calN (vk y np : Nat) (ast : List AV) : Bool := Nat.ble np ast.length && (Nat.ble (acats (ast.drop np)) 8 && (Nat.beq (acats (ast.take np)) np && rcvN vk y (ast.take np).reverse))
noncomputable def nCI (vk x y np : Nat) : StepN := fun cc rc pc als ast M => bK (calN vk y np ast) (cI (cc x (aargs 0 (ast.take np).reverse) M) (fun v M' => rc (pc + 3) als (.inl v :: ast.drop np) M')) none
noncomputable def nCV (vk x y np : Nat) : StepN := fun cc rc pc als ast M => bK (calN vk y np ast) (cV (cc x (aargs 0 (ast.take np).reverse) M) (fun M' => rc (pc + 3) als (ast.drop np) M')) none
def nRI : StepN := fun _ _ _ _ ast M => match ast with
  | [.inl v] => some (Nat.add v 2, M)
  | _ => none
noncomputable def nRB : StepN := fun _ _ _ _ ast M => match ast with
  | [.inl v] => bK (Nat.ble v 1) (some (Nat.add v 2, M)) none
  | _ => none
def nVo : StepN := fun _ _ _ _ ast M => match ast with
  | [] => some (1, M)
  | _ => none
def execN (cc : CCN) : List (Nat × StepN) → KN → KN
  | [], rc => rc
  | e :: es, rc => fun pc als ast M => match Nat.beq pc e.1 with
    | true => e.2 cc (execN cc es rc) pc als ast M
    | false => execN cc es rc pc als ast M
theorem execN_ok {l : Launch} {g : GV} {D : va_G} {sl h u q q' mi : Nat} {Pf : Nat × Nat → Nat → Nat → Prop} {cc : CCN} (hc : CSnd l g D sl h cc) {rc : KN} (hr : KSnd l g D sl (h + 1) u q q' mi Pf rc) {es : List (Nat × StepN)} (he : ∀ e ∈ es, SOKN l g D sl h u q q' mi Pf e.1 e.2) : KSnd l g D sl (h + 1) u q q' mi Pf (execN cc es rc) := by
  induction es with
  | nil => exact hr
  | cons e es ih =>
    have ih := ih (fun e h => he e (List.mem_cons_of_mem _ h))
    intro pc als ast M r h
    have h : (match Nat.beq pc e.1 with
      | true => e.2 cc (execN cc es rc) pc als ast M
      | false => execN cc es rc pc als ast M) = some r := h
    split at h
    · rename_i hb
      have hb := Nat.eq_of_beq_eq_true hb
      subst hb
      exact he e List.mem_cons_self cc _ hc ih als ast M r h
    · exact ih pc als ast M r h
