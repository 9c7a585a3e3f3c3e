/-! fields and int rows behind one number: one row of the kit each -/
def tabF (LT : List (Option LC)) (i x y : Nat) : Option LF :=
  match LT[i]? with
  | some (some (.inl (x', fl))) => match Nat.beq x' x with
    | true => fl[y]?
    | false => none
  | _ => none
def tabA (LT : List (Option LC)) (i k len base w C hi : Nat) : Bool :=
  match LT[i]? with
  | some (some (.inr (k', len', base', w', C', hi'))) => Nat.beq k' k && (Nat.beq base' base && (Nat.beq w' w && (Nat.beq len' len && (Nat.beq C' C && (Nat.beq hi' hi && (Nat.ble w C && (Nat.ble C hi && (Nat.ble hi len && Nat.blt len 2147483648))))))))
  | _ => false
theorem tabF_in {LT : List (Option LC)} {i x y : Nat} {f : LF} (h : tabF LT i x y = some f) : ∃ fl, LT[i]? = some (some (.inl (x, fl))) ∧ fl[y]? = some f := by
  unfold tabF at h
  split at h
  · rename_i x' fl hL
    split at h
    · rename_i hb
      have hb := Nat.eq_of_beq_eq_true hb
      subst hb
      exact ⟨fl, hL, h⟩
    · cases h
  · cases h
theorem tabA_in {LT : List (Option LC)} {i k len base w C hi : Nat} (h : tabA LT i k len base w C hi = true) : LT[i]? = some (some (.inr (k, len, base, w, C, hi))) ∧ w ≤ C ∧ C ≤ hi ∧ hi ≤ len ∧ len < 2147483648 := by
  unfold tabA at h
  split at h
  · rename_i k' len' base' w' C' hi' hL
    have h1 := and_cases h
    have h2 := and_cases h1.2
    have h3 := and_cases h2.2
    have h4 := and_cases h3.2
    have h5 := and_cases h4.2
    have h6 := and_cases h5.2
    have h7 := and_cases h6.2
    have h8 := and_cases h7.2
    have h9 := and_cases h8.2
    have e1 := Nat.eq_of_beq_eq_true h1.1
    have e2 := Nat.eq_of_beq_eq_true h2.1
    have e3 := Nat.eq_of_beq_eq_true h3.1
    have e4 := Nat.eq_of_beq_eq_true h4.1
    have e5 := Nat.eq_of_beq_eq_true h5.1
    have e6 := Nat.eq_of_beq_eq_true h6.1
    subst e1
    subst e2
    subst e3
    subst e4
    subst e5
    subst e6
    exact ⟨hL, Nat.le_of_ble_eq_true h7.1, Nat.le_of_ble_eq_true h8.1, Nat.le_of_ble_eq_true h9.1, Nat.le_of_ble_eq_true h9.2⟩
  · cases h
section HNR
variable {LT : List (Option LC)} {N0 q M : Nat} {D : va_G} {A : Nat → Prop} {s : State} {ρ : List Nat} {tys : TY} {H : Heap} {locs : List Loc}
variable {p : Program} {l : Launch} {e : Env} {R : Room} {m : MethodId} {args : Array Value} {below : List Frame} {meth : Method} {c : Code} {cells slots : Nat} {Q : State → Prop} {cc : ByteArray} {pc : Nat} {ls : Array Slot} {st : List Value} {WB : List Jvm.Cond} {own : String}
theorem gn_get (hx : p.tables.exec = Jvm.exec) (hb : c.code = cc) (hts : ∀ w ∈ WB, w.before args s = true) (hown : s.vm.findClass own = some m.cls) {idx x y i b : Nat} {f : LF} (hF : FOK WB own idx x y) (hT : tabF LT i x y = some f) (hR : HRN LT N0 D q M A s ρ tys H locs) (hb0 : ρ[i]? = some b) (hd : decode cc pc = .ok (.getfield idx, 3))
    (k : ∀ v, lfok ρ M f v → W p l e R s m args below meth c H locs cells slots Q (F0 m (pc + 3) ls (v :: st))) : W p l e R s m args below meth c H locs cells slots Q (F0 m pc ls (.ref b :: st)) := by
  obtain ⟨C, T, N, ref, f1, f2, f3, f4, f5⟩ := hF
  obtain ⟨fl, hL, hfl⟩ := tabF_in hT
  obtain ⟨hK, ws, h0, h1, h2, h3, h4, h5⟩ := hR
  obtain ⟨en, hen⟩ := ρ_at h1 hb0
  obtain ⟨fs, hfs, hFF⟩ := h5 i _ hen _ hL
  have hfs : en = .inr (x, fs) := hfs
  subst hfs
  obtain ⟨v, hv, hvr⟩ := F2_get hFF hfl
  refine va_get (D := D) hx hb hts f2 hown hK h2 i hen f1 y f3 (hts _ f4) ?_ hv hd (k v hvr)
  rcases f5 with rfl | f5
  · exact fun _ h9 => h9
  · exact fun x9 h9 => u_same (hts _ f5) x9 h9
theorem gn_put (hx : p.tables.exec = Jvm.exec) (hb : c.code = cc) (hts : ∀ w ∈ WB, w.before args s = true) (hown : s.vm.findClass own = some m.cls) {idx x y z i b a n : Nat} (hF : FOK WB own idx x y) (hP0 : POK own false x y z) (hT : tabF LT i x y = some (some (.inl a))) (hO : okL LT = true) (hz : z = 0 ∨ (z = 1 ∧ n ≤ 1)) (hR : HRN LT N0 D q M A s ρ tys H locs) (hb0 : ρ[i]? = some b) (hd : decode cc pc = .ok (.putfield idx, 3))
    (k : ∀ (H' : Heap) (locs' : List Loc), HRN LT N0 D q (wrX M a n) A s ρ tys H' locs' → W p l e R s m args below meth c H' locs' cells slots Q (F0 m (pc + 3) ls st)) : W p l e R s m args below meth c H locs cells slots Q (F0 m pc ls (.int (nI n) :: .ref b :: st)) := by
  obtain ⟨C, T, N, ref, f1, f2, f3, f4, f5⟩ := hF
  obtain ⟨C', T', N', ty0, p1, p2, p3, p4, p5⟩ := hP0
  cases f1.symm.trans p1
  obtain ⟨fl, hL, hfl⟩ := tabF_in hT
  obtain ⟨hK, ws, h0, h1, h2, h3, h4, h5⟩ := hR
  obtain ⟨en, hen⟩ := ρ_at h1 hb0
  obtain ⟨fs, hfs, hFF⟩ := h5 i _ hen _ hL
  have hfs : en = .inr (x, fs) := hfs
  subst hfs
  obtain ⟨v0, hv0, hvr0⟩ := F2_get hFF hfl
  have hsame : ∀ x9, s.fieldFound? (T y).1 (T y).2.1 (T y).2.2.1 = some x9 → s.fieldFound? ref (T y).2.1 (T y).2.2.1 = some x9 := by
    rcases f5 with rfl | f5
    · exact fun _ h9 => h9
    · exact fun x9 h9 => u_same (hts _ f5) x9 h9
  have hnf : narrow (ty0 y) (.int (nI n)) = .int (nI n) ∧ fits (ty0 y) (.int (nI n)) = true := by
    rcases hz with rfl | ⟨rfl, hn⟩
    · exact fitk_ok (g := ([], 0, 0)) (ρ := []) (a := .inl n) p4 rfl rfl
    · rcases Nat.le_one_iff_eq_zero_or_eq_one.mp hn with rfl | rfl
      · exact fitk_ok (g := ([], 0, 0)) (ρ := []) (a := .inl 0) p4 rfl rfl
      · exact fitk_ok (g := ([], 0, 0)) (ρ := []) (a := .inl 1) p4 rfl rfl
  have p5 : (T y).2.2.2 = false := by
    rcases p5 with p5 | ⟨-, p6, -⟩
    · exact p5
    · cases p6
  refine va_put (D := D) hx hb hts f2 ty0 p2 p3 hown hK h2 h3 h4 i hen f1 y f3 (hts _ f4) hsame p5 (p2 y f3) hnf.1 hnf.2 (List.getElem?_eq_some_iff.mp hv0).1 hd (fun H1 locs1 hP1 hD1 hS1 => ?_)
  refine k H1 locs1 (HRN_set hO hK h0 h1 h5 hen hL ?_ (fun b hb => ?_) hP1 hD1 hS1)
  · refine ⟨_, rfl, ?_⟩
    have key : ∀ (kk : Nat) (fl' : List LF) (vs' : List Value), (∀ j, fl'[j]? = fl[kk + j]?) → F2 (lfok ρ M) fl' vs' → (∀ j, vs'[j]? = fs[kk + j]?) → F2 (lfok ρ (wrX M a n)) fl' (vs'.mapIdx (fun j v => if kk + j = y then .int (nI n) else v)) := by
      intro kk fl' vs'
      induction fl' generalizing kk vs' with
      | nil => intro _ h _; rw [F2_nil h]; exact F2_0
      | cons f fl' ih =>
        intro e1 h e2
        obtain ⟨v, vs', rfl, q1, q2⟩ := F2_cons h
        rw [List.mapIdx_cons]
        refine F2_mk ?_ ?_
        · by_cases hkk : kk + 0 = y
          · rw [if_pos hkk]
            have e3 : some f = fl[kk + 0]? := by rw [← e1 0]; rfl
            rw [hkk, hfl] at e3
            cases e3
            refine ⟨nI n, rfl, fun n' hn' => ?_⟩
            rw [wrX_same] at hn'
            have hn' : n' = n % 4294967296 := by omega
            rw [hn', nI_mod]
          · rw [if_neg hkk]
            refine lfok_M (fun b hb => Or.inl (wrX_ne _ _ (fun hba => hkk ?_))) q1
            subst hba
            obtain ⟨lo', hi', q3⟩ := okL_ge hO hL
            have e3 : fl[kk + 0]? = some f := by rw [← e1 0]; rfl
            rw [hb] at e3
            exact okF_inj (show okF lo' fl = some hi' from q3) e3 hfl
        · have := ih (kk + 1) vs' (fun j => by have := e1 (j + 1); rw [show kk + 1 + j = kk + (j + 1) by omega, ← this]; rfl) q2 (fun j => by have := e2 (j + 1); rw [show kk + 1 + j = kk + (j + 1) by omega, ← this]; rfl)
          have e4 : (fun (j : Nat) (v : Value) => if kk + 1 + j = y then Value.int (nI n) else v) = (fun (j : Nat) (v : Value) => if kk + (j + 1) = y then Value.int (nI n) else v) := by
            funext j v
            rw [show kk + 1 + j = kk + (j + 1) by omega]
          rw [e4] at this
          exact this
    have h9 := key 0 fl fs (fun j => by rw [Nat.zero_add]) hFF (fun j => by rw [Nat.zero_add])
    have e5 : fs.mapIdx (fun j v => if 0 + j = y then Value.int (nI n) else v) = fs.set y (.int (nI n)) := by
      apply List.ext_getElem?
      intro j
      rw [List.getElem?_mapIdx, List.getElem?_set]
      by_cases hj : y = j
      · subst hj
        rw [if_pos rfl, hv0]
        simp [(List.getElem?_eq_some_iff.mp hv0).1]
      · rw [if_neg hj]
        cases e6 : fs[j]? with
        | none => simp
        | some w => simp; intro h7; omega
    rw [e5] at h9
    exact h9
  · exact wrX_ne _ _ (fun h => hb (by rw [h]; exact List.mem_of_getElem? hfl))
theorem gn_ald {k0 i b len base w C hi n a : Nat} {ins : Instr} (hT : tabA LT i k0 len base w C hi = true) (hk : (k0 = 0 ∧ ins = .iaload) ∨ (k0 = 1 ∧ ins = .baload)) (hx : p.tables.exec = Jvm.exec) (hb : c.code = cc) (hn : aX base w C hi n = a + 1) (hR : HRN LT N0 D q M A s ρ tys H locs) (hb0 : ρ[i]? = some b) (hd : decode cc pc = .ok (ins, 1))
    (k : ∀ v, (∀ n', rdX M a = n' + 1 → v = nI n') → W p l e R s m args below meth c H locs cells slots Q (F0 m (pc + 1) ls (.int v :: st))) : W p l e R s m args below meth c H locs cells slots Q (F0 m pc ls (.int (nI n) :: .ref b :: st)) := by
  obtain ⟨hL, hwC, hCl, hhi, hlen⟩ := tabA_in hT
  have hnl : n < len := by rcases aX_in hn with ⟨q1, q2, q3⟩ | ⟨q1, q2, q3⟩ <;> omega
  obtain ⟨hK, ws, h0, h1, h2, h3, h4, h5⟩ := hR
  obtain ⟨en, hen⟩ := ρ_at h1 hb0
  have hk1 : k0 ≤ 1 := by
    rcases hk with ⟨rfl, -⟩ | ⟨rfl, -⟩ <;> decide
  obtain ⟨cA, F9, t, ht, hf, hff0⟩ := h5 i _ hen _ hL
  obtain ⟨f, eF9, hff⟩ := (crepA_int hk1).mp hff0
  subst eF9
  have hf : en = .inl (cA, len, .inl f) := hf
  subst hf
  rcases hk with ⟨rfl, rfl⟩ | ⟨rfl, rfl⟩
  · refine va_iald (D := D) hx hb hK h2 i t hen ht (vp_in_nI hnl (by omega)) hd ?_
    rw [nI_clamp (by omega)]
    exact k _ (hff n a hn)
  · refine va_zald (D := D) hx hb hK h2 i t hen ht (vp_in_nI hnl (by omega)) hd ?_
    rw [nI_clamp (by omega)]
    exact k _ (hff n a hn)
theorem inC_of {k0 len base w C hi n a : Nat} (hn : aX base w C hi n = a + 1) : inC (.inr (k0, len, base, w, C, hi)) a := by
  show base ≤ a ∧ a < base + (w + (hi - C))
  rcases aX_in hn with ⟨h1, h2, h3⟩ | ⟨h1, h2, h3⟩ <;> omega
theorem aX_inj {hi base w C n j a : Nat} (hwC : w ≤ C) (hn : aX base w C hi n = a + 1) (hj : aX base w C hi j = a + 1) : n = j := by
  rcases aX_in hn with ⟨h1, h2, h3⟩ | ⟨h1, h2, h3⟩ <;> rcases aX_in hj with ⟨g1, g2, g3⟩ | ⟨g1, g2, g3⟩ <;> omega
theorem gn_ast {k0 i b len base w C hi n v a : Nat} {ins : Instr} (hT : tabA LT i k0 len base w C hi = true) (hk : (k0 = 0 ∧ ins = .iastore) ∨ (k0 = 1 ∧ ins = .bastore ∧ v ≤ 1)) (hO : okL LT = true) (hx : p.tables.exec = Jvm.exec) (hb : c.code = cc) (hn : aX base w C hi n = a + 1) (hR : HRN LT N0 D q M A s ρ tys H locs) (hb0 : ρ[i]? = some b) (hd : decode cc pc = .ok (ins, 1))
    (k : ∀ (H' : Heap) (locs' : List Loc), HRN LT N0 D q (wrX M a v) A s ρ tys H' locs' → W p l e R s m args below meth c H' locs' cells slots Q (F0 m (pc + 1) ls st)) : W p l e R s m args below meth c H locs cells slots Q (F0 m pc ls (.int (nI v) :: .int (nI n) :: .ref b :: st)) := by
  obtain ⟨hL, hwC, hCl, hhi, hlen⟩ := tabA_in hT
  have hnl : n < len := by rcases aX_in hn with ⟨q1, q2, q3⟩ | ⟨q1, q2, q3⟩ <;> omega
  obtain ⟨hK, ws, h0, h1, h2, h3, h4, h5⟩ := hR
  obtain ⟨en, hen⟩ := ρ_at h1 hb0
  have hk1 : k0 ≤ 1 := by
    rcases hk with ⟨rfl, -⟩ | ⟨rfl, -⟩ <;> decide
  obtain ⟨cA, F9, t, ht, hf, hff0⟩ := h5 i _ hen _ hL
  obtain ⟨f, eF9, hff⟩ := (crepA_int hk1).mp hff0
  subst eF9
  have hf : en = .inl (cA, len, .inl f) := hf
  subst hf
  have fin : ∀ (H1 : Heap) (locs1 : List Loc), va_P D vwCl (ws.set i (b, .inl (cA, len, .inl (upd f n (nI v))))) H1 → va_D A (ws.set i (b, .inl (cA, len, .inl (upd f n (nI v))))) → va_S A s.heap H1 locs1 → W p l e R s m args below meth c H1 locs1 cells slots Q (F0 m (pc + 1) ls st) := by
    intro H1 locs1 hP1 hD1 hS1
    refine k H1 locs1 (HRN_set hO hK h0 h1 h5 hen hL ⟨cA, _, t, ht, rfl, (crepA_int hk1).mpr ⟨_, rfl, fun j a' ha' n' hn' => ?_⟩⟩ (fun b hb => wrX_ne _ _ (fun h => hb (by rw [h]; exact inC_of hn))) hP1 hD1 hS1)
    by_cases hjn : j = n
    · subst hjn
      have e : a' = a := by omega
      subst e
      rw [pk_us]
      rw [wrX_same] at hn'
      have hn' : n' = v % 4294967296 := by omega
      rw [hn', nI_mod]
    · rw [pk_un hjn]
      rw [wrX_ne _ _ (fun e => hjn (by subst e; exact aX_inj hwC ha' hn))] at hn'
      exact hff j a' ha' n' hn'
  rcases hk with ⟨rfl, rfl⟩ | ⟨rfl, rfl, hv⟩
  · refine va_iast (D := D) hx hb hK h2 h3 h4 i t hen ht (vp_in_nI hnl (by omega)) hd (fun H1 locs1 hP1 hD1 hS1 => ?_)
    rw [nI_clamp (by omega)] at hP1 hD1
    exact fin H1 locs1 hP1 hD1 hS1
  · have hnar : vp_nar .boolean (nI v) = nI v := by
      rcases Nat.le_one_iff_eq_zero_or_eq_one.mp hv with rfl | rfl <;> decide
    refine va_zast (D := D) hx hb hK h2 h3 h4 i t hen ht (vp_in_nI hnl (by omega)) hd (fun H1 locs1 hP1 hD1 hS1 => ?_)
    rw [nI_clamp (by omega), hnar] at hP1 hD1
    exact fin H1 locs1 hP1 hD1 hS1
/-- where n places from sp on lie side by side, and 1 -/
noncomputable def aS (base w C hi sp n : Nat) : Nat := @Bool.rec (fun _ => Nat) (@Bool.rec (fun _ => Nat) 0 (Nat.add (Nat.add base sp) 1) (Nat.ble (Nat.add sp n) w)) (@Bool.rec (fun _ => Nat) 0 (Nat.add (Nat.add (Nat.add base w) (Nat.sub sp C)) 1) (Nat.ble (Nat.add sp n) hi)) (Nat.ble C sp)
theorem aS_in {base w C hi sp n a : Nat} (hwC : w ≤ C) (h : aS base w C hi sp n = a + 1) (hCl : C ≤ hi) : sp + n ≤ hi ∧ (∀ i, i < n → aX base w C hi (sp + i) = a + i + 1) ∧ base ≤ a ∧ a + n ≤ base + (w + (hi - C)) := by
  unfold aS at h
  cases e : Nat.ble C sp with
  | true =>
    have e := Nat.le_of_ble_eq_true e
    rw [Nat.ble_eq_true_of_le e] at h
    cases e2 : Nat.ble (Nat.add sp n) hi with
    | true =>
      rw [e2] at h
      have e2 : sp + n ≤ hi := Nat.le_of_ble_eq_true e2
      have h : base + w + (sp - C) + 1 = a + 1 := h
      refine ⟨e2, fun i hi => ?_, by omega, by omega⟩
      rw [aX_hi (by omega) (by omega)]
      omega
    | false => rw [e2] at h; cases h
  | false =>
    have e0 : ¬ C ≤ sp := fun z => by rw [Nat.ble_eq_true_of_le z] at e; cases e
    rw [e] at h
    cases e2 : Nat.ble (Nat.add sp n) w with
    | true =>
      rw [e2] at h
      have e2 : sp + n ≤ w := Nat.le_of_ble_eq_true e2
      have h : base + sp + 1 = a + 1 := h
      refine ⟨by omega, fun i hi => ?_, by omega, by omega⟩
      rw [aX_lo (by omega) (by omega)]
      omega
    | false => rw [e2] at h; cases h
theorem gn_cp {i b len base w C hi n sp dp idx dep as ad : Nat} (hT : tabA LT i 0 len base w C hi = true) (hO : okL LT = true) (hx : p.tables.exec = Jvm.exec) (hb : c.code = cc) (hml : c.maxLocals = ls.size) (hts : ∀ w ∈ WB, w.before args s = true) (hown : s.vm.findClass own = some m.cls) (hl1 : Jvm.Cond.methodLink own idx arraycopyName ∈ WB) (hl2 : Jvm.Cond.native arraycopyName ∈ WB) (hl3 : Jvm.Cond.static arraycopyName ∈ WB) (hl4 : Jvm.Cond.initialized "java/lang/System" ∈ WB)
    (hsp : aS base w C hi sp n = as + 1) (hdp : aS base w C hi dp n = ad + 1) (h9 : (st.map fun v => v.category).sum ≤ 8) (hf1 : dep + 8 ≤ R.frames) (hf2 : 100 * dep + 300 ≤ R.locals) (hR : HRN LT N0 D q M A s ρ tys H locs) (hb0 : ρ[i]? = some b) (hd : decode cc pc = .ok (.invokestatic idx, 3))
    (k : ∀ (H' : Heap) (locs' : List Loc), HRN LT N0 D q (cpX M as ad n) A s ρ tys H' locs' → W p l e R s m args below meth c H' locs' cells slots Q (F0 m (pc + 3) ls st)) : W p l e R s m args below meth c H locs cells slots Q (F0 m pc ls (.int (nI n) :: .int (nI dp) :: .ref b :: .int (nI sp) :: .ref b :: st)) := by
  obtain ⟨hL, hwC, hCl, hhi, hlen⟩ := tabA_in hT
  obtain ⟨s1, s2, s3, s4⟩ := aS_in hwC hsp hCl
  obtain ⟨d1, d2, d3, d4⟩ := aS_in hwC hdp hCl
  obtain ⟨hK, ws, h0, h1, h2, h3, h4, h5⟩ := hR
  obtain ⟨en, hen⟩ := ρ_at h1 hb0
  have hk1 : 0 ≤ 1 := by decide
  obtain ⟨cA, F9, t, ht, hf, hff0⟩ := h5 i _ hen _ hL
  obtain ⟨f, eF9, hff⟩ := (crepA_int hk1).mp hff0
  subst eF9
  have hf : en = .inl (cA, len, .inl f) := hf
  subst hf
  have cn := nI_clamp (n := n) (by omega)
  have cd := nI_clamp (n := dp) (by omega)
  have cs := nI_clamp (n := sp) (by omega)
  have hnf : nativeFrameWords "java/lang/System" "arraycopy" 5 ≤ 100 := by decide +kernel
  have nn : ∀ z : Nat, z < 2147483648 → ¬ nI z < 0 := by
    intro z hz h0
    have := (off_ltI (nI z) 0).mp h0
    rw [off_nI, show off 0 = 2147483648 from rfl] at this
    omega
  refine va_copyi (D := D) hx hb hml hown (hts _ hl1) (hts _ hl2) (hts _ hl3) (hts _ hl4) hK h2 h3 h4 i i t t hen hen ht ht rfl (nn sp (by omega)) (nn dp (by omega)) (nn n (by omega)) (by rw [cs, cn]; omega) (by rw [cd, cn]; omega) (fun _ _ => rfl) (by omega) (by omega) hd ?_
  intro H1 locs1 hP1 hD1 hS1
  refine k H1 locs1 (HRN_set hO hK h0 h1 h5 hen hL ⟨cA, _, t, ht, rfl, (crepA_int hk1).mpr ⟨_, rfl, fun j a' ha' n' hn' => ?_⟩⟩ (fun a ha => ?_) hP1 hD1 hS1)
  · rw [cn, cd, cs]
    unfold va_cpy
    by_cases hin2 : dp ≤ j ∧ j < dp + n
    · rw [if_pos hin2]
      have e1 := d2 (j - dp) (by omega)
      rw [show dp + (j - dp) = j by omega, ha'] at e1
      have e2 : a' = ad + (j - dp) := by omega
      rw [e2, cpX_in _ _ _ _ _ (by omega)] at hn'
      have e3 := hff (sp + (j - dp)) (as + (j - dp)) (s2 (j - dp) (by omega)) n' hn'
      rw [← e3]
    · rw [if_neg hin2]
      refine hff j a' ha' n' ?_
      rw [← hn']
      refine (cpX_out _ _ _ _ _ ?_).symm
      apply Classical.byContradiction
      intro hc
      have e1 := d2 (a' - ad) (by omega)
      have e2 : aX base w C hi (dp + (a' - ad)) = a' + 1 := by rw [e1]; omega
      have e3 := aX_inj hwC e2 ha'
      omega
  · have ha : ¬ (base ≤ a ∧ a < base + (w + (hi - C))) := ha
    exact cpX_out _ _ _ _ _ (by omega)
end HNR
