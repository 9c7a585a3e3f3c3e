def kdef : Nat → AV
  | 2 => .inr (.inr (.inr (.inl none)))
  | 3 => .inr (.inr (.inr (.inl (some 0))))
  | _ => .inl 0
def akdef : Nat → AV
  | 0 => .inl 0
  | 1 => .inl 0
  | 2 => .inr (.inr (.inr (.inl (some 0))))
  | _ => .inr (.inr (.inr (.inl none)))
def pmka (kind : Nat) (ah : List AC) (nt : Nat) (ast : List AV) : Option (List AC × List AV × Nat) :=
  match ast with
  | .inl n :: rest => if n ≤ 100000 then some (ah ++ [.inr (kind, nt, n, [], akdef kind)], .inr (.inr (.inl ah.length)) :: rest, n) else none
  | _ => none
def pmko (x : Nat) (fk : List Nat) (ah : List AC) (ast : List AV) : List AC × List AV := (ah ++ [.inl (x, fk.map kdef)], .inr (.inr (.inl ah.length)) :: ast)
def NOK (WB : List Jvm.Cond) (own : String) (idx x : Nat) (fk : List Nat) : Prop := ∃ (C : String) (T : u_T) (N : Nat) (ty : Nat → FieldType), vwCl[x]? = some (C, T, N) ∧ (∀ w ∈ u_ws C T N, w ∈ WB) ∧ (∀ k, k < N → parseFieldDescriptor (T k).2.2.1 = some (ty k)) ∧ Jvm.Cond.classLink own idx C ∈ WB ∧ Jvm.Cond.instantiable C N ∈ WB ∧ Jvm.Cond.initialized C ∈ WB ∧ fk.length = N ∧ ∀ j, j < N → ∃ z, fk[j]? = some z ∧ kindok z (ty j) = true
theorem F2_of {α β : Type} {R : α → β → Prop} {l : List α} {m : List β} (hl : l.length = m.length) (h : ∀ (i : Nat) (a : α) (b : β), l[i]? = some a → m[i]? = some b → R a b) : F2 R l m := by
  induction l generalizing m with
  | nil =>
    cases m with
    | nil => exact F2_0
    | cons b m => simp at hl
  | cons x l ih =>
    cases m with
    | nil => simp at hl
    | cons b m => exact F2_mk (h 0 x b rfl rfl) (ih (by simpa using hl) (fun i a b ha hb => h (i + 1) a b (by simpa using ha) (by simpa using hb)))
theorem kdef_ok {g : GV} {ρ : List Nat} {z : Nat} {ty : FieldType} (h : kindok z ty = true) : vrel g ρ (kdef z) (defaultValue ty) := by
  match z, ty, h with
  | 0, .int, _ => exact (rfl : defaultValue .int = .int (nI 0))
  | 1, .boolean, _ => exact (rfl : defaultValue .boolean = .int (nI 0))
  | 2, .object C, _ => exact (rfl : defaultValue (.object C) = .null)
  | 2, .array C, _ => exact (rfl : defaultValue (.array C) = .null)
  | 3, .long, _ => exact (rfl : defaultValue .long = .long (lN 0))
section MOK
variable {p : Program} {l : Launch} {e : Env} {R : Room} {s : State} {m : MethodId} {args : Array Value} {below : List Frame} {meth : Method} {c : Code} {H : Heap} {locs : List Loc} {cells slots : Nat} {Q : State → Prop} {cc : ByteArray} {pc : Nat} {ls : Array Slot} {st : List Value}
variable {g : GV} {D : va_G} {A : Nat → Prop} {ρ : List Nat} {tys : TY} {ah : List AC} {ast : List AV} {WB : List Jvm.Cond} {own : String}
theorem app_old {α : Type} {l : List α} {x : List α} (i : Nat) (a : α) (h : l[i]? = some a) : (l ++ x)[i]? = some a := by
  rw [List.getElem?_append_left (List.getElem?_eq_some_iff.mp h).1]; exact h
theorem app_new {α : Type} (l : List α) (a : α) : (l ++ [a])[l.length]? = some a := by simp
theorem HR_app {ws : va_W} {q : Nat} {en : va_E} {ac : AC} {ex : TY} {H1 : Heap} {locs1 : List Loc} (e1 : ρ = ws.map Prod.fst) (hW : F2 (fun (c : AC) (q : Nat × va_E) => crel g ρ tys c q.2) ah ws) (hK : va_K D vwCl (tys ++ ex) s) (hc : crel g (ρ ++ [q]) (tys ++ ex) ac en) (hP1 : va_P D vwCl (ws ++ [(q, en)]) H1) (hD1 : va_D A (ws ++ [(q, en)])) (hS1 : va_S A s.heap H1 locs1) : HR g D A s (ρ ++ [q]) (tys ++ ex) (ah ++ [ac]) H1 locs1 :=
  ⟨hK, ws ++ [(q, en)], by rw [e1]; simp, hP1, hD1, hS1, F2_app (F2_mono (fun _ _ h => crel_more (fun i a h => app_old i a h) (fun i a h => app_old i a h) h) hW) (F2_mk hc F2_0)⟩
theorem newa_ok (hx : p.tables.exec = Jvm.exec) (hb : c.code = cc) (hts : ∀ w ∈ WB, w.before args s = true) (hA : ∀ q, s.heap.size ≤ q → A q) {kind : Nat} {aty : ArrayType} (hka : (kind = 0 ∧ aty = .int) ∨ (kind = 1 ∧ aty = .boolean) ∨ (kind = 2 ∧ aty = .long)) (hwd : Jvm.Cond.arrayClass (newarray.typeOf aty) ∈ WB) (hR : HR g D A s ρ tys ah H locs) (hS : F2 (vrel g ρ) ast st) (hd : decode cc pc = .ok (.newarray aty, 2)) {r : List AC × List AV × Nat} (h : pmka kind ah tys.length ast = some r)
    (hcl : cells + 1 ≤ R.cells) (hsl : slots + r.2.2 ≤ R.slots)
    (k : ∀ (ρ' : List Nat) (tys' : TY) (H' : Heap) (locs' : List Loc) st', (∀ (i a : Nat), ρ[i]? = some a → ρ'[i]? = some a) → tys'.length = tys.length + 1 → HR g D A s ρ' tys' r.1 H' locs' → F2 (vrel g ρ') r.2.1 st' → W p l e R s m args below meth c H' locs' (cells + 1) (slots + r.2.2) Q (F0 m (pc + 2) ls st')) : W p l e R s m args below meth c H locs cells slots Q (F0 m pc ls st) := by
  obtain ⟨hK, ws, e1, hP, hDD, hSS, hW⟩ := hR
  unfold pmka at h
  split at h
  · rename_i n rest
    split at h
    · rename_i hn
      have h := sj h
      subst h
      obtain ⟨v, vs, rfl, hr1, hS1⟩ := F2_cons hS
      rw [show v = .int (nI n) from hr1]
      have hlen : ah.length = ws.length := F2_len hW
      have hρl : ρ.length = ws.length := by rw [e1]; simp
      have fin : ∀ (en : ClassId → va_E) (q : Nat) (cA : ClassId) (H1 : Heap), (∀ ρ' : List Nat, arel g ρ' kind cA n (alk (akdef kind) []) (en cA)) → va_K D vwCl (tys ++ [(cA, kty kind)]) s → va_P D vwCl (ws ++ [(q, en cA)]) H1 → va_D A (ws ++ [(q, en cA)]) → va_S A s.heap H1 locs → W p l e R s m args below meth c H1 locs (cells + 1) (slots + n) Q (F0 m (pc + 2) ls (.ref q :: vs)) := by
        intro en q cA H1 ha hK1 hP1 hD1 hS2
        refine k (ρ ++ [q]) (tys ++ [(cA, kty kind)]) H1 locs _ (fun i a h => app_old i a h) (by simp) (HR_app e1 hW hK1 ⟨cA, app_new _ _, ha _⟩ hP1 hD1 hS2) (F2_mk ⟨q, ?_, rfl⟩ (F2_mono (fun _ _ h => vrel_more (fun i a h => app_old i a h) h) hS1))
        rw [hlen, ← hρl]; exact app_new _ _
      have hn0 : ¬ nI n < 0 := nI_pos (by omega)
      have hcn : (nI n).toNatClampNeg = n := nI_clamp (by omega)
      rcases hka with ⟨rfl, rfl⟩ | ⟨rfl, rfl⟩ | ⟨rfl, rfl⟩
      · exact va_newa (D := D) (atype := .int) (ty := .int) (a0 := (n, .inl (fun _ => 0))) hx hb (hts _ hwd) rfl hK hP hDD hSS hA (fun cA => rfl) hn0 hcn (by show n * 4 ≤ 536870912; omega) hcl hsl hd (fun q cA H1 => fin (fun cA => .inl (cA, n, .inl (fun _ => 0))) q cA H1 (fun _ => ⟨_, rfl, fun _ _ => rfl⟩))
      · exact va_newa (D := D) (atype := .boolean) (ty := .boolean) (a0 := (n, .inl (fun _ => 0))) hx hb (hts _ hwd) rfl hK hP hDD hSS hA (fun cA => rfl) hn0 hcn (by show n * 1 ≤ 536870912; omega) hcl hsl hd (fun q cA H1 => fin (fun cA => .inl (cA, n, .inl (fun _ => 0))) q cA H1 (fun _ => ⟨_, rfl, fun _ _ => rfl⟩))
      · exact va_newa (D := D) (atype := .long) (ty := .long) (a0 := (n, .inr (.inl (fun _ => 0)))) hx hb (hts _ hwd) rfl hK hP hDD hSS hA (fun cA => rfl) hn0 hcn (by show n * 8 ≤ 536870912; omega) hcl hsl hd (fun q cA H1 => fin (fun cA => .inl (cA, n, .inr (.inl (fun _ => 0)))) q cA H1 (fun _ => ⟨_, rfl, fun _ _ => rfl⟩))
    · cases h
  · cases h
theorem newq_ok (hx : p.tables.exec = Jvm.exec) (hb : c.code = cc) (hts : ∀ w ∈ WB, w.before args s = true) (hown : s.vm.findClass own = some m.cls) (hA : ∀ q, s.heap.size ≤ q → A q) {kk idx : Nat} (hcl0 : Jvm.Cond.classLink own idx (ecls kk) ∈ WB) (hover : va_AO (ecls kk) s) (hR : HR g D A s ρ tys ah H locs) (hS : F2 (vrel g ρ) ast st) (hd : decode cc pc = .ok (.anewarray idx, 3)) {r : List AC × List AV × Nat} (h : pmka (kk + 3) ah tys.length ast = some r)
    (hcl : cells + 1 ≤ R.cells) (hsl : slots + r.2.2 ≤ R.slots)
    (k : ∀ (ρ' : List Nat) (tys' : TY) (H' : Heap) (locs' : List Loc) st', (∀ (i a : Nat), ρ[i]? = some a → ρ'[i]? = some a) → tys'.length = tys.length + 1 → HR g D A s ρ' tys' r.1 H' locs' → F2 (vrel g ρ') r.2.1 st' → W p l e R s m args below meth c H' locs' (cells + 1) (slots + r.2.2) Q (F0 m (pc + 3) ls st')) : W p l e R s m args below meth c H locs cells slots Q (F0 m pc ls st) := by
  obtain ⟨hK, ws, e1, hP, hDD, hSS, hW⟩ := hR
  unfold pmka at h
  split at h
  · rename_i n rest
    split at h
    · rename_i hn
      have h := sj h
      subst h
      obtain ⟨v, vs, rfl, hr1, hS1⟩ := F2_cons hS
      rw [show v = .int (nI n) from hr1]
      have hlen : ah.length = ws.length := F2_len hW
      have hρl : ρ.length = ws.length := by rw [e1]; simp
      have hn0 : ¬ nI n < 0 := nI_pos (by omega)
      have hcn : (nI n).toNatClampNeg = n := nI_clamp (by omega)
      refine va_newq (D := D) hx hb hown (hts _ hcl0) hover hK hP hDD hSS hA hn0 hcn (by omega) hcl hsl hd (fun q cA H1 hK1 hP1 hD1 hS2 => ?_)
      refine k (ρ ++ [q]) (tys ++ [(cA, kty (kk + 3))]) H1 locs _ (fun i a h => app_old i a h) (by simp) (HR_app e1 hW hK1 ⟨cA, app_new _ _, ⟨_, rfl, fun _ _ => (rfl : va_rf none = .null)⟩⟩ hP1 hD1 hS2) (F2_mk ⟨q, ?_, rfl⟩ (F2_mono (fun _ _ h => vrel_more (fun i a h => app_old i a h) h) hS1))
      rw [hlen, ← hρl]; exact app_new _ _
    · cases h
  · cases h
theorem new_ok (hx : p.tables.exec = Jvm.exec) (hb : c.code = cc) (hts : ∀ w ∈ WB, w.before args s = true) (hown : s.vm.findClass own = some m.cls) (hA : ∀ q, s.heap.size ≤ q → A q) {idx x : Nat} {fk : List Nat} (hN : NOK WB own idx x fk) (hR : HR g D A s ρ tys ah H locs) (hS : F2 (vrel g ρ) ast st) (hd : decode cc pc = .ok (.new idx, 3))
    (hcl : cells + 1 ≤ R.cells) (hsl : slots + fk.length ≤ R.slots)
    (k : ∀ (ρ' : List Nat) (H' : Heap) (locs' : List Loc) st', (∀ (i a : Nat), ρ[i]? = some a → ρ'[i]? = some a) → HR g D A s ρ' tys (pmko x fk ah ast).1 H' locs' → F2 (vrel g ρ') (pmko x fk ah ast).2 st' → W p l e R s m args below meth c H' locs' (cells + 1) (slots + fk.length) Q (F0 m (pc + 3) ls st')) : W p l e R s m args below meth c H locs cells slots Q (F0 m pc ls st) := by
  obtain ⟨C, T, N, ty, f1, f2, f3, f4, f5, f6, f7, f8⟩ := hN
  obtain ⟨hK, ws, e1, hP, hDD, hSS, hW⟩ := hR
  have hlen : ah.length = ws.length := F2_len hW
  have hρl : ρ.length = ws.length := by rw [e1]; simp
  subst f7
  have hfs : ∀ j, j < fk.length → defaultValue (ty j) = vp_V ((List.range fk.length).map (fun j => defaultValue (ty j))) j := by
    intro j hj
    unfold vp_V
    rw [List.getD_eq_getElem?_getD, List.getElem?_map, List.getElem?_range hj]
    rfl
  have hFv : ∀ ρ' : List Nat, F2 (vrel g ρ') (fk.map kdef) ((List.range fk.length).map (fun j => defaultValue (ty j))) := by
    intro ρ'
    refine F2_of (by simp) (fun i a b ha hb => ?_)
    rw [List.getElem?_map] at ha hb
    cases hz : fk[i]? with
    | none => rw [hz] at ha; cases ha
    | some z =>
      rw [hz] at ha
      have hi : i < fk.length := (List.getElem?_eq_some_iff.mp hz).1
      rw [List.getElem?_range hi] at hb
      have ha := Option.some.inj ha
      have hb := Option.some.inj hb
      subst ha
      subst hb
      obtain ⟨z', hz', hk⟩ := f8 i hi
      cases hz.symm.trans hz'
      exact kdef_ok hk
  refine va_new (D := D) hx hb hts f2 ty f3 hown (hts _ f4) (hts _ f5) (hts _ f6) hK hP hDD hSS hA f1 hfs hcl hsl hd (fun q H1 hP1 hD1 hS2 => ?_)
  have hK' : va_K D vwCl (tys ++ []) s := by rw [List.append_nil]; exact hK
  have key := HR_app (ex := []) (ac := .inl (x, fk.map kdef)) e1 hW hK' ⟨_, hFv (ρ ++ [q]), rfl⟩ hP1 hD1 hS2
  rw [List.append_nil] at key
  refine k (ρ ++ [q]) H1 locs _ (fun i a h => app_old i a h) key (F2_mk ⟨q, ?_, rfl⟩ (F2_mono (fun _ _ h => vrel_more (fun i a h => app_old i a h) h) hS))
  rw [hlen, ← hρl]; exact app_new _ _
theorem gets_ok (hx : p.tables.exec = Jvm.exec) (hb : c.code = cc) (hts : ∀ w ∈ WB, w.before args s = true) (hown : s.vm.findClass own = some m.cls) {C n d : String} (hZ : va_Z C n d (.ref g.2.2) A s s.heap) {idx : Nat} (hlink : Jvm.Cond.fieldLink own idx C n d ∈ WB) (hR : HR g D A s ρ tys ah H locs) (hS : F2 (vrel g ρ) ast st) (hd : decode cc pc = .ok (.getstatic idx, 3))
    (k : ∀ st', F2 (vrel g ρ) (.inr (.inr (.inr (.inr 3))) :: ast) st' → W p l e R s m args below meth c H locs cells slots Q (F0 m (pc + 3) ls st')) : W p l e R s m args below meth c H locs cells slots Q (F0 m pc ls st) := by
  obtain ⟨hK, ws, e1, hP, hDD, hSS, hW⟩ := hR
  exact va_gets hx hb hZ hSS hown (hts _ hlink) (fun _ h9 => h9) hd (k _ (F2_mk rfl hS))
end MOK
