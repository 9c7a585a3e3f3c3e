/-! cells: an object (class, fields), or an array (kind, its place among the array types, length, what was stored, what stands elsewhere) -/
abbrev AC : Type := (Nat × List AV) ⊕ (Nat × Nat × Nat × Als × AV)
abbrev TY : Type := List (ClassId × FieldType)
def ecls : Nat → String
  | 0 => "RuleForgeModel$Term"
  | _ => "java/lang/Object"
def kty : Nat → FieldType
  | 0 => .int
  | 1 => .boolean
  | 2 => .long
  | k + 3 => .object (ecls k)
def alk (d : AV) : Als → Nat → AV
  | [], _ => d
  | q :: l, i => match Nat.beq q.1 i with
    | true => q.2
    | false => alk d l i
def arel (g : GV) (ρ : List Nat) (kind : Nat) (cA : ClassId) (len : Nat) (c : Nat → AV) (e : va_E) : Prop :=
  match kind with
  | 0 => ∃ f : Nat → Int32, e = .inl (cA, len, .inl f) ∧ ∀ i, i < len → vrel g ρ (c i) (.int (f i))
  | 1 => ∃ f : Nat → Int32, e = .inl (cA, len, .inl f) ∧ ∀ i, i < len → vrel g ρ (c i) (.int (f i))
  | 2 => ∃ f : Nat → Int64, e = .inl (cA, len, .inr (.inl f)) ∧ ∀ i, i < len → vrel g ρ (c i) (.long (f i))
  | _ + 3 => ∃ f : Nat → Option Nat, e = .inl (cA, len, .inr (.inr (.inr (.inr f)))) ∧ ∀ i, i < len → vrel g ρ (c i) (va_rf (f i))
def crel (g : GV) (ρ : List Nat) (tys : TY) : AC → va_E → Prop
  | .inl o, e => ∃ vs, F2 (vrel g ρ) o.2 vs ∧ e = .inr (o.1, vs)
  | .inr (kind, t, len, ups, d), e => ∃ cA, tys[t]? = some (cA, kty kind) ∧ arel g ρ kind cA len (alk d ups) e
theorem crel_more {g : GV} {ρ ρ' : List Nat} {tys tys' : TY} (h : ∀ (i a : Nat), ρ[i]? = some a → ρ'[i]? = some a) (ht : ∀ (i : Nat) (a : ClassId × FieldType), tys[i]? = some a → tys'[i]? = some a) {c : AC} {e : va_E} (hr : crel g ρ tys c e) : crel g ρ' tys' c e := by
  match c, hr with
  | .inl o, hr =>
    obtain ⟨vs, h1, h2⟩ := hr
    exact ⟨vs, F2_mono (fun _ _ q => vrel_more h q) h1, h2⟩
  | .inr (0, t, len, ups, d), hr =>
    obtain ⟨cA, h1, f, h2, h3⟩ := hr
    exact ⟨cA, ht _ _ h1, f, h2, fun i hi => vrel_more h (h3 i hi)⟩
  | .inr (1, t, len, ups, d), hr =>
    obtain ⟨cA, h1, f, h2, h3⟩ := hr
    exact ⟨cA, ht _ _ h1, f, h2, fun i hi => vrel_more h (h3 i hi)⟩
  | .inr (2, t, len, ups, d), hr =>
    obtain ⟨cA, h1, f, h2, h3⟩ := hr
    exact ⟨cA, ht _ _ h1, f, h2, fun i hi => vrel_more h (h3 i hi)⟩
  | .inr (k + 3, t, len, ups, d), hr =>
    obtain ⟨cA, h1, f, h2, h3⟩ := hr
    exact ⟨cA, ht _ _ h1, f, h2, fun i hi => vrel_more h (h3 i hi)⟩
/-- the world behind the numbers -/
def HR (g : GV) (D : va_G) (A : Nat → Prop) (s : State) (ρ : List Nat) (tys : TY) (ah : List AC) (H : Heap) (locs : List Loc) : Prop :=
  va_K D vwCl tys s ∧ ∃ ws : va_W, ρ = ws.map Prod.fst ∧ va_P D vwCl ws H ∧ va_D A ws ∧ va_S A s.heap H locs ∧ F2 (fun (c : AC) (q : Nat × va_E) => crel g ρ tys c q.2) ah ws
theorem ws_at {ws : va_W} {ρ : List Nat} (h : ρ = ws.map Prod.fst) {g : GV} {tys : TY} {ah : List AC} (hF : F2 (fun (c : AC) (q : Nat × va_E) => crel g ρ tys c q.2) ah ws) {i a : Nat} (hi : ρ[i]? = some a) {c : AC} (hc : ah[i]? = some c) : ∃ e, ws[i]? = some (a, e) ∧ crel g ρ tys c e := by
  obtain ⟨q, hq, hr⟩ := F2_get hF hc
  obtain ⟨q1, q2⟩ := q
  subst h
  rw [List.getElem?_map, hq] at hi
  have e : q1 = a := Option.some.inj hi
  subst e
  exact ⟨q2, hq, hr⟩
theorem set_fst {ws : va_W} {i a : Nat} {e e' : va_E} (h : ws[i]? = some (a, e)) : (ws.set i (a, e')).map Prod.fst = ws.map Prod.fst := by
  apply List.ext_getElem?
  intro j
  rw [List.getElem?_map, List.getElem?_map, List.getElem?_set]
  by_cases hj : i = j
  · subst hj
    obtain ⟨hlt, he⟩ := List.getElem?_eq_some_iff.mp h
    simp [hlt, he]
  · simp [hj]
/-! fields -/
def FOK (WB : List Jvm.Cond) (own : String) (idx x y : Nat) : Prop := ∃ (C : String) (T : u_T) (N : Nat) (ref : String), vwCl[x]? = some (C, T, N) ∧ (∀ w ∈ u_ws C T N, w ∈ WB) ∧ y < N ∧ Jvm.Cond.fieldLink own idx ref (T y).2.1 (T y).2.2.1 ∈ WB ∧ (ref = (T y).1 ∨ Jvm.Cond.sameField ref (T y).1 (T y).2.1 (T y).2.2.1 ∈ WB)
def kindok (z : Nat) (ty : FieldType) : Bool :=
  match z, ty with
  | 0, .int => true
  | 1, .boolean => true
  | 2, .object _ => true
  | 2, .array _ => true
  | 3, .long => true
  | _, _ => false
def fitk (z : Nat) (a : AV) : Bool :=
  match z with
  | 0 => isI a
  | 1 => match a with
    | .inl 0 => true
    | .inl 1 => true
    | _ => false
  | 2 => isRN a
  | 3 => match a with
    | .inr (.inr (.inr (.inl (some _)))) => true
    | _ => false
  | _ => false
def POK (own : String) (isInit : Bool) (x y z : Nat) : Prop := ∃ (C : String) (T : u_T) (N : Nat) (ty0 : Nat → FieldType), vwCl[x]? = some (C, T, N) ∧ (∀ k, k < N → parseFieldDescriptor (T k).2.2.1 = some (ty0 k)) ∧ (∀ a, a < N → ∀ b, b < N → a ≠ b → (T a).2.1 ≠ (T b).2.1) ∧ kindok z (ty0 y) = true ∧ ((T y).2.2.2 = false ∨ ((T y).2.2.2 = true ∧ isInit = true ∧ (T y).1 = own))
theorem fitk_ok {g : GV} {ρ : List Nat} {z : Nat} {ty : FieldType} {a : AV} {v : Value} (h : kindok z ty = true) (h2 : fitk z a = true) (hr : vrel g ρ a v) : narrow ty v = v ∧ fits ty v = true := by
  match z, ty, h with
  | 0, .int, _ =>
    obtain ⟨x, rfl⟩ := vint h2 hr
    exact ⟨rfl, rfl⟩
  | 1, .boolean, _ =>
    match a, h2, hr with
    | .inl 0, _, hr => rw [show v = .int (nI 0) from hr]; decide
    | .inl 1, _, hr => rw [show v = .int (nI 1) from hr]; decide
  | 2, .object C, _ => rcases rn_ok h2 hr with rfl | ⟨x, rfl⟩ <;> exact ⟨rfl, rfl⟩
  | 2, .array C, _ => rcases rn_ok h2 hr with rfl | ⟨x, rfl⟩ <;> exact ⟨rfl, rfl⟩
  | 3, .long, _ =>
    match a, h2, hr with
    | .inr (.inr (.inr (.inl (some n)))), _, hr => rw [show v = .long (lN n) from hr]; exact ⟨rfl, rfl⟩
def pgf (x y : Nat) (ah : List AC) (ast : List AV) : Option (List AV) :=
  match ast with
  | .inr (.inr (.inl i)) :: rest => match ah[i]? with
    | some (.inl o) => match Nat.beq o.1 x with
      | true => match o.2[y]? with
        | some a => some (a :: rest)
        | none => none
      | false => none
    | _ => none
  | _ => none
def ppf (x y z : Nat) (ah : List AC) (ast : List AV) : Option (List AC × List AV) :=
  match ast with
  | a :: .inr (.inr (.inl i)) :: rest => match ah[i]? with
    | some (.inl o) => match Nat.beq o.1 x with
      | true => match fitk z a with
        | true => if y < o.2.length then some (ah.set i (.inl (o.1, o.2.set y a)), rest) else none
        | false => none
      | false => none
    | _ => none
  | _ => none
section HOK
variable {p : Program} {l : Launch} {e : Env} {R : Room} {s : State} {m : MethodId} {args : Array Value} {below : List Frame} {meth : Method} {c : Code} {H : Heap} {locs : List Loc} {cells slots : Nat} {Q : State → Prop} {cc : ByteArray} {pc : Nat} {ls : Array Slot} {st : List Value}
variable {g : GV} {D : va_G} {A : Nat → Prop} {ρ : List Nat} {tys : TY} {ah : List AC} {ast : List AV} {WB : List Jvm.Cond} {own : String}
theorem gf_ok (hx : p.tables.exec = Jvm.exec) (hb : c.code = cc) (hts : ∀ w ∈ WB, w.before args s = true) (hown : s.vm.findClass own = some m.cls) {idx x y : Nat} (hF : FOK WB own idx x y) (hR : HR g D A s ρ tys ah H locs) (hS : F2 (vrel g ρ) ast st) (hd : decode cc pc = .ok (.getfield idx, 3)) {r : List AV} (h : pgf x y ah ast = some r)
    (k : ∀ st', F2 (vrel g ρ) r st' → W p l e R s m args below meth c H locs cells slots Q (F0 m (pc + 3) ls st')) : W p l e R s m args below meth c H locs cells slots Q (F0 m pc ls st) := by
  obtain ⟨C, T, N, ref, f1, f2, f3, f4, f5⟩ := hF
  obtain ⟨hK, ws, e1, hP, hDD, hSS, hW⟩ := hR
  unfold pgf at h
  split at h
  · rename_i i rest
    split at h
    · rename_i o ho
      split at h
      · rename_i hbq
        split at h
        · rename_i a ha
          have h := sj h
          subst h
          obtain ⟨v, st1, rfl, hr1, hS1⟩ := F2_cons hS
          obtain ⟨q, hq, rfl⟩ := hr1
          obtain ⟨en, hen, vs, hvs, rfl⟩ := ws_at e1 hW hq ho
          obtain ⟨v, hv, hvr⟩ := F2_get hvs ha
          have hbq := Nat.eq_of_beq_eq_true hbq
          rw [hbq] at hen
          refine va_get (D := D) hx hb hts f2 hown hK hP i hen f1 y f3 (hts _ f4) ?_ hv hd (k _ (F2_mk hvr hS1))
          rcases f5 with rfl | f5
          · exact fun _ h9 => h9
          · exact fun x9 h9 => u_same (hts _ f5) x9 h9
        · cases h
      · cases h
    · cases h
  · cases h
theorem pf_ok (hx : p.tables.exec = Jvm.exec) (hb : c.code = cc) (hts : ∀ w ∈ WB, w.before args s = true) (hown : s.vm.findClass own = some m.cls) {isInit : Bool} (hin : isInit = true → meth.name = "<init>") {idx x y z : Nat} (hF : FOK WB own idx x y) (hP0 : POK own isInit x y z) (hR : HR g D A s ρ tys ah H locs) (hS : F2 (vrel g ρ) ast st) (hd : decode cc pc = .ok (.putfield idx, 3)) {r : List AC × List AV} (h : ppf x y z ah ast = some r)
    (k : ∀ (H' : Heap) (locs' : List Loc) st', HR g D A s ρ tys r.1 H' locs' → F2 (vrel g ρ) r.2 st' → W p l e R s m args below meth c H' locs' cells slots Q (F0 m (pc + 3) ls st')) : W p l e R s m args below meth c H locs cells slots Q (F0 m pc ls st) := by
  obtain ⟨C, T, N, ref, f1, f2, f3, f4, f5⟩ := hF
  obtain ⟨C', T', N', ty0, p1, p2, p3, p4, p5⟩ := hP0
  cases f1.symm.trans p1
  obtain ⟨hK, ws, e1, hP, hDD, hSS, hW⟩ := hR
  unfold ppf at h
  split at h
  · rename_i a i rest
    split at h
    · rename_i o ho
      split at h
      · rename_i hbq
        split at h
        · rename_i hfk
          split at h
          · rename_i hlen
            have h := sj h
            subst h
            obtain ⟨v, st1, rfl, hr1, hS1⟩ := F2_cons hS
            obtain ⟨w, st2, rfl, hr2, hS2⟩ := F2_cons hS1
            obtain ⟨q, hq, rfl⟩ := hr2
            obtain ⟨en, hen, vs, hvs, rfl⟩ := ws_at e1 hW hq ho
            have hbq := Nat.eq_of_beq_eq_true hbq
            obtain ⟨n1, n2⟩ := fitk_ok p4 hfk hr1
            have hsame : ∀ x9, s.fieldFound? (T y).1 (T y).2.1 (T y).2.2.1 = some x9 → s.fieldFound? ref (T y).2.1 (T y).2.2.1 = some x9 := by
              rcases f5 with rfl | f5
              · exact fun _ h9 => h9
              · exact fun x9 h9 => u_same (hts _ f5) x9 h9
            have hen0 := hen
            rw [hbq] at hen
            have kk : ∀ (H1 : Heap) (locs1 : List Loc), va_P D vwCl (ws.set i (q, .inr (x, vs.set y v))) H1 → va_D A (ws.set i (q, .inr (x, vs.set y v))) → va_S A s.heap H1 locs1 → W p l e R s m args below meth c H1 locs1 cells slots Q (F0 m (pc + 3) ls st2) := by
              intro H1 locs1 hP1 hD1 hS9
              refine k H1 locs1 st2 ⟨hK, ws.set i (q, .inr (x, vs.set y v)), ?_, hP1, hD1, hS9, ?_⟩ hS2
              · rw [set_fst hen]; exact e1
              · refine F2_set hW i ?_
                exact ⟨vs.set y v, F2_set hvs y hr1, by rw [hbq]⟩
            have hvl : y < vs.length := by rw [← F2_len hvs]; exact hlen
            rcases p5 with p5 | ⟨p5, p6, p7⟩
            · exact va_put (D := D) hx hb hts f2 ty0 p2 p3 hown hK hP hDD hSS i hen f1 y f3 (hts _ f4) hsame p5 (p2 y f3) n1 n2 hvl hd kk
            · exact va_putF (D := D) hx hb hts f2 ty0 p2 p3 hown hK hP hDD hSS i hen f1 y f3 (hts _ f4) hsame p5 (hin p6) p7 (p2 y f3) n1 n2 hvl hd kk
          · cases h
        · cases h
      · cases h
    · cases h
  · cases h
end HOK
