/-! calls of the run by numbers -/
def HRw (g : GV) (D : va_G) (A : Nat → Prop) (ρ : List Nat) (tys : TY) (ah : List AC) (H : Heap) : Prop := ∃ ws : va_W, ρ = ws.map Prod.fst ∧ va_P D vwCl ws H ∧ va_D A ws ∧ F2 (fun (c : AC) (q : Nat × va_E) => crel g ρ tys c q.2) ah ws
theorem HR_w {g : GV} {D : va_G} {A : Nat → Prop} {s : State} {ρ : List Nat} {tys : TY} {ah : List AC} {H : Heap} {locs : List Loc} (h : HR g D A s ρ tys ah H locs) : HRw g D A ρ tys ah H := by
  obtain ⟨hK, ws, e1, hP, hDD, hSS, hW⟩ := h
  exact ⟨ws, e1, hP, hDD, hW⟩
theorem HR_of {g : GV} {D : va_G} {A : Nat → Prop} {s : State} {ρ : List Nat} {tys : TY} {ah : List AC} {H : Heap} {locs : List Loc} (hK : va_K D vwCl tys s) (h : HRw g D A ρ tys ah H) (hS : va_S A s.heap H locs) : HR g D A s ρ tys ah H locs := by
  obtain ⟨ws, e1, hP, hDD, hW⟩ := h
  exact ⟨hK, ws, e1, hP, hDD, hS, hW⟩
theorem HR_S {g : GV} {D : va_G} {A : Nat → Prop} {s : State} {ρ : List Nat} {tys : TY} {ah : List AC} {H : Heap} {locs : List Loc} (h : HR g D A s ρ tys ah H locs) : va_S A s.heap H locs := by
  obtain ⟨hK, ws, e1, hP, hDD, hSS, hW⟩ := h
  exact hSS
theorem HRw_grow {g : GV} {D : va_G} {A : Nat → Prop} {ρ : List Nat} {tys : TY} {ah : List AC} {H H1 : Heap} (h : HRw g D A ρ tys ah H) (hk : ∀ q : Nat, q < H.size → H1[q]? = H[q]?) : HRw g D A ρ tys ah H1 := by
  obtain ⟨ws, e1, hP, hDD, hW⟩ := h
  exact ⟨ws, e1, hP.kept (fun k q hq => hk _ (vx_lt hP hq)), hDD, hW⟩
def vres (g : GV) (ρ : List Nat) (f : Fin9) (v : Option Value) : Prop :=
  match f.1 with
  | 1 => v = none
  | _ => ∃ x, v = some x ∧ vrel g ρ f.2.2.1 x
def rst (f : Fin9) (rest : List AV) : List AV :=
  match f.1 with
  | 1 => rest
  | _ => f.2.2.1 :: rest
theorem vres_F2 {g : GV} {ρ : List Nat} {f : Fin9} {v : Option Value} {rest : List AV} {vs : List Value} (h : vres g ρ f v) (hS : F2 (vrel g ρ) rest vs) : F2 (vrel g ρ) (rst f rest) (v.toList ++ vs) := by
  unfold vres at h
  unfold rst
  split at h
  · subst h; exact hS
  · obtain ⟨x, rfl, hx⟩ := h
    exact F2_mk hx hS
def CP (SR : List (String × Nat × String)) (AD : List Jvm.Cond) (FW : FWT) (g : GV) (D : va_G) (A : Nat → Prop) (tys : TY) (vs : List Value) (H : Heap) : Array Value → State → Prop := fun v U => v = vs.toArray ∧ U.heap = H ∧ Amb SR AD FW g A U ∧ va_K D vwCl tys U
def CQ (g : GV) (D : va_G) (A : Nat → Prop) (ρ : List Nat) (f : Fin9) : Array Value → State → Outcome → State → Prop := fun _ st oc t => (∃ (v : Option Value) (ρ' : List Nat) (tys' : TY), oc = .returned v ∧ vres g ρ' f v ∧ Ext ρ ρ' ∧ tys'.length = ft f ∧ va_K D vwCl tys' t ∧ HRw g D A ρ' tys' (fh f) t.heap) ∧ va_F A st t
def CX (g : GV) (D : va_G) (A : Nat → Prop) (ρ : List Nat) (f : Fin9) (ec : Nat) : String → State → State → Prop := fun E st t => (∃ (ρ' : List Nat) (tys' : TY), E = ename ec ∧ Ext ρ ρ' ∧ tys'.length = ft f ∧ va_K D vwCl tys' t ∧ HRw g D A ρ' tys' (fh f) t.heap) ∧ va_F A st t
def CN : Array Value → State → Outcome → State → Prop := fun _ _ _ _ => False
theorem cwd_spec {md : MD} {args : Array Value} {s : State} {m : MethodId} (h : (cwd md).before args s = true) (hn : s.methodNamed? (mY md) = some m) : ∃ meth c, s.vm.method? m = some meth ∧ meth.code = some c ∧ c.code = mC md ∧ c.maxLocals = mL md ∧ meth.sig.returnType = mR md ∧ meth.locks = false ∧ c.exceptionTable.toList = tableOf ((mH md).map d4) := by
  unfold cwd at h
  cases e : (mH md).map d4 with
  | nil =>
    rw [e] at h
    obtain ⟨meth, c, h1, h2, h3, h4, h5, h6, h7, -⟩ := Cond.code_spec hn h
    exact ⟨meth, c, h1, h2, h3, h4, h5, h6, by rw [Array.isEmpty_iff.mp h7]; rfl⟩
  | cons q qs =>
    rw [e] at h
    obtain ⟨m9, meth, c, hn9, h1, h2, h3, h4, h6, h5, h7, -⟩ := Cond.codeWith_spec h
    cases hn.symm.trans hn9
    exact ⟨meth, c, h1, h2, h3, h4, h5, h7, by rw [← h6, table_eq]⟩
theorem F2_args {g : GV} {ρ : List Nat} {avs : List AV} {vs : List Value} (h : F2 (vrel g ρ) avs vs) (i : Nat) : F2 (fun (a : Nat × AV) (q : Nat × Value) => a.1 = q.1 ∧ vrel g ρ a.2 q.2) (aargs i avs) (lv_args i vs) := by
  induction avs generalizing vs i with
  | nil => rw [F2_nil h]; exact F2_0
  | cons a l ih =>
    obtain ⟨v, ws, rfl, h1, h2⟩ := F2_cons h
    show F2 _ ((i, a) :: aargs (if acat a = 2 then i + 2 else i + 1) l) ((i, v) :: lv_args (if v.category = 2 then i + 2 else i + 1) ws)
    rw [vcat h1]
    exact F2_mk ⟨rfl, h1⟩ (ih h2 _)
theorem lg_len (vs : List Value) : (lg_sl vs).length ≤ (vs.map fun v => v.category).sum := by
  induction vs with
  | nil => exact Nat.le_refl _
  | cons v vs ih =>
    have e : lg_sl (v :: vs) = (if v.category = 2 then [.val v, .second] else [.val v]) ++ lg_sl vs := by simp [lg_sl]
    rw [e, List.length_append]
    show _ ≤ v.category + (vs.map fun v => v.category).sum
    split
    · rename_i h; rw [h]; simp; omega
    · have : 1 ≤ v.category := by cases v <;> simp [Value.category]
      simp; omega
theorem retok_ok {g : GV} {ρ : List Nat} {r : Option FieldType} {a : AV} {v : Value} (h : retok r a = true) (hr : vrel g ρ a v) : ∃ ty x, r = some ty ∧ v = .int x ∧ narrow ty (.int x) = .int x := by
  match r, h with
  | some .int, h =>
    obtain ⟨x, rfl⟩ := vint (show isI a = true from h) hr
    exact ⟨.int, x, rfl, rfl, rfl⟩
  | some .boolean, h =>
    have h : fitk 1 a = true := h
    match a, h, hr with
    | .inl 0, _, hr => exact ⟨.boolean, nI 0, rfl, hr, by decide⟩
    | .inl 1, _, hr => exact ⟨.boolean, nI 1, rfl, hr, by decide⟩
theorem rtk_ok {r : Option FieldType} (h : rtk r = true) : ∃ rt, r = some rt ∧ ((∃ n, rt = .object n) ∨ ∃ t, rt = .array t) := by
  match r, h with
  | some (.object n), _ => exact ⟨_, rfl, Or.inl ⟨n, rfl⟩⟩
  | some (.array n), _ => exact ⟨_, rfl, Or.inr ⟨n, rfl⟩⟩
section CALLS
variable {TB : List MT} {WB AD : List Jvm.Cond} {SR : List (String × Nat × String)} {FW : FWT} {STP : Als × List AV} {l : Launch} {g : GV} {D : va_G} {sl : Nat} {A : Nat → Prop}
theorem blind_CP (hAD : ADok AD) (hFW : FWok FW) {tys : TY} {vs : List Value} {H : Heap} : FrameBlind (CP SR AD FW g D A tys vs H) := fun _ U _ _ h => ⟨h.1, h.2.1, h.2.2.1.same hAD hFW rfl rfl, h.2.2.2.moved (Vm.Alike.refl _)⟩
theorem pre_CP (hAD : ADok AD) (hFW : FWok FW) {tys : TY} {vs : List Value} {s : State} {H : Heap} {locs : List Loc} {ah : List AC} {ρ : List Nat} (hAmb : Amb SR AD FW g A s) (hR : HR g D A s ρ tys ah H locs) : ∀ U : State, U.heap = H → s.WarmedH U.vm → CP SR AD FW g D A tys vs H vs.toArray U := fun U hU hW => ⟨rfl, hU, hAmb.warm hAD hFW (HR_S hR) hU hW (fun _ h => h), hR.1.moved hW.alike⟩
theorem entry_ok {x d : Nat} (hx0 : x ≠ 0) {mt : MT} (hM : MOK WB mt.1) {ρ : List Nat} {tys : TY} {ah : List AC} {H0 : Heap} {vs : List Value} {avs : List AV} (hav : F2 (vrel g ρ) avs vs) (hcat : acats avs ≤ mL mt.1) (hl : l.stackTraces = false) (hA : ∀ q, H0.size ≤ q → A q) (hw : HRw g D A ρ tys ah H0) {rm : Room} (hrm : FRM d ≤ rm.frames ∧ LOC d ≤ rm.locals)
    {p : Program} {e : Env} {s : State} {m : MethodId} {args : Array Value} {below : List Frame} {meth : Method} {c : Code} {s₁ : State} (B : BodyLoose p l (mY mt.1) (headSpec (cwd mt.1 :: WB) rm) (mC mt.1) (mL mt.1) (mR mt.1) e s m args below meth c s₁) (hml : c.maxLocals = mL mt.1) (hP : CP SR AD FW g D A tys vs H0 args s) :
    Ctx WB AD SR FW g sl mt.1 d x p l (headSpec (cwd mt.1 :: WB) rm).room s m args meth c A ∧ HR g D A s ρ tys ah s.heap [] ∧ ∃ ls, entryFrame m args (mL mt.1) = F0 m 0 ls [] ∧ LR g ρ (mL mt.1) (aargs 0 avs) ls := by
  obtain ⟨ha, hH, hAmb, hK⟩ := hP
  have hts0 := atoms_spec (ws := cwd mt.1 :: WB) B.pre
  obtain ⟨m1, m2, m3, m4, m5, m6, m7, m8, m9⟩ := hM
  obtain ⟨meth9, c9, h1, h2, -, -, -, -, h7⟩ := cwd_spec (hts0 _ List.mem_cons_self) B.named
  cases Option.some.inj (h1.symm.trans B.method)
  cases Option.some.inj (h2.symm.trans (Stand.of_body B).code)
  have hln := Nat.le_trans (lg_len vs) (by rw [F2_cats hav]; exact hcat)
  refine ⟨⟨B.exec, B.bytes, hml, fun w hw => hts0 w (List.mem_cons_of_mem _ hw), by rw [m6]; exact findClass_of_methodNamed B.named, fun hi => (name_of_methodNamed B.named B.method).1.trans (m7 hi), fun q hq => hA q (by rw [← hH]; exact hq), hAmb, hrm, hl, B.notSynchronized, ⟨fun h0 => absurd h0 hx0, fun _ => h7⟩, B.returns, fun h0 => absurd h0 hx0⟩, HR_of hK (by rw [hH]; exact hw) va_S.rf, _, by rw [ha]; exact lg_entry_eq m vs (mL mt.1), ⟨_, lv_entry vs hln, F2_args hav 0⟩⟩
theorem fin_ret {md : MD} {f : Fin9} (hf : f.1 < 3) {p : Program} {e : Env} {R : Room} {s : State} {m : MethodId} {args : Array Value} {below : List Frame} {meth : Method} {c : Code} {d x : Nat} (C : Ctx WB AD SR FW g sl md d x p l R s m args meth c A) {ρ ρ' : List Nat} {tys' : TY} {H' : Heap} {locs' : List Loc} {ls' : Array Slot} {st' : List Value} (hE : Ext ρ ρ') (hR' : HR g D A s ρ' tys' (fh f) H' locs') (hft : tys'.length = ft f) (hF : FinS WB AD SR STP g md f ρ' ls' st') :
    W p l e R s m args below meth c H' locs' (fu f) (fv f) (MQ below (CQ g D A ρ f) args s (fu f) (fv f) A) (F0 m f.2.1 ls' st') := by
  obtain ⟨hx, hb, hml, hts, hown, hin, hA, hAmb, hRR, hlt, hlk, htab, hret, hscr⟩ := C
  have hw := HR_w hR'
  have hS' := HR_S hR'
  have fin : ∀ (v : Option Value), vres g ρ' f v → ∀ t : State, t.heap = H' → s.WarmedH t.vm → CQ g D A ρ f args s (.returned v) t := fun v hv t ht hW => ⟨⟨v, ρ', tys', rfl, hv, hE, hft, hR'.1.moved hW.alike, by rw [ht]; exact hw⟩, hS'.F ht⟩
  obtain ⟨rk, pcf, a, ahf, ntf, u, w⟩ := f
  match rk, hf, hF, fin with
  | 0, _, hF, fin =>
    obtain ⟨v, rfl, hvr, hro, hd⟩ := hF
    obtain ⟨ty, x, hr1, rfl, hr3⟩ := retok_ok hro hvr
    exact W.zret hx hb (hret.trans hr1) hr3 (fin _ ⟨_, rfl, hvr⟩) hS'.2.2 hd hlk
  | 1, _, hF, fin =>
    obtain ⟨rfl, hr0, hd⟩ := hF
    exact W.vret hx hb (hret.trans hr0) (fin _ rfl) hS'.2.2 hd hlk
  | 2, _, hF, fin =>
    obtain ⟨v, rfl, hvr, hrn, hr0, hd⟩ := hF
    obtain ⟨rt, hr1, hr2⟩ := rtk_ok hr0
    exact W.aret hx hb (hret.trans hr1) hr2 (rn_ok hrn hvr) (fin _ ⟨_, rfl, hvr⟩) hS'.2.2 hd hlk
theorem met_ret {rc : RC} (IH : RSnd TB WB AD SR FW STP l g D sl rc) {x d : Nat} (hx0 : x ≠ 0) {mt : MT} (hmt : TB[x]? = some mt) (hM : MOK WB mt.1) {ρ : List Nat} {tys : TY} {ah : List AC} {nt : Nat} {H0 : Heap} {vs : List Value} {avs : List AV} {f : Fin9} (hrun : rc d x 0 (aargs 0 avs) [] ah nt = some f) (hf : f.1 < 3) (hnt : tys.length = nt) (hav : F2 (vrel g ρ) avs vs) (hcat : acats avs ≤ mL mt.1) (hl : l.stackTraces = false) (hA : ∀ q, H0.size ≤ q → A q) (hw : HRw g D A ρ tys ah H0) :
    Met l (mY mt.1) (cwd mt.1 :: WB) ({ frames := FRM d, cells := fu f, slots := fv f, locals := LOC d } : Room) (CP SR AD FW g D A tys vs H0) (CQ g D A ρ f) (fu f) (fv f) A := by
  refine MetFree.of_bodyS (code := mC mt.1) (maxLocals := mL mt.1) (ret := mR mt.1) hM.2.2.2.1 ?_ ?_
  · intro args s m h hn
    obtain ⟨meth, c, h1, h2, h3, h4, h5, h6, -⟩ := cwd_spec (atoms_spec (ws := cwd mt.1 :: WB) h _ List.mem_cons_self) hn
    exact ⟨meth, c, h1, h2, h3, h4, h5, h6⟩
  · intro p e s m args below meth c s₁ B hml hP _
    have hh0 : s₁.heap = s.heap := by rw [B.state]; rfl
    obtain ⟨C, hR, ls, els, hL⟩ := entry_ok (sl := sl) hx0 hM hav hcat hl hA hw (rm := { frames := FRM d, cells := fu f, slots := fv f, locals := LOC d }) ⟨Nat.le_refl _, Nat.le_refl _⟩ B hml hP
    have K : W p l e (headSpec (cwd mt.1 :: WB) ({ frames := FRM d, cells := fu f, slots := fv f, locals := LOC d } : Room)).room s m args below meth c s.heap [] 0 0 (MQ below (CQ g D A ρ f) args s (fu f) (fv f) A) (entryFrame m args (mL mt.1)) := by
      rw [els]
      refine IH d x 0 _ [] ah nt f mt hmt hrun p e _ s m args below meth c s.heap [] 0 0 _ A ρ tys ls [] C hR hnt hL F2_0 (by rw [Nat.zero_add]; exact Nat.le_refl _) (by rw [Nat.zero_add]; exact Nat.le_refl _) ?_
      intro ρ' tys' H' locs' ls' st' k n hE hR' hft hF hc hk hn
      exact W.widen (k := fu f) (n := fv f) (by omega) (by omega) (fin_ret hf C hE hR' hft hF)
    obtain ⟨t, a1, o, b1, b2, b3⟩ := K s₁ hh0 (Stand.of_body B)
    exact ⟨t, o, a1, b1, b2, ⟨b3.1, b3.2⟩⟩
theorem tab_nil {md : MD} (h : mH md = []) : tableOf ((mH md).map d4) = [] := by rw [h]; rfl
theorem fin_thr (hWB : ∀ w ∈ WB, goodWord w = true) (hAD : ADok AD) {md : MD} {f : Fin9} {ec : Nat} (hf : f.1 = ec + 3) (hec : ec < 3) {d x : Nat} (h8 : 8 ≤ d) {p : Program} {e : Env} {R : Room} {s : State} {m : MethodId} {args : Array Value} {below : List Frame} {meth : Method} {c : Code} (hx0 : x ≠ 0) (C : Ctx WB AD SR FW g sl md d x p l R s m args meth c A) {ρ ρ' : List Nat} {tys' : TY} {H' : Heap} {locs' : List Loc} {ls' : Array Slot} {st' : List Value} {k n : Nat} (hE : Ext ρ ρ') (hR' : HR g D A s ρ' tys' (fh f) H' locs') (hft : tys'.length = ft f) (hF : FinS WB AD SR STP g md f ρ' ls' st') (hk : k + 1 ≤ fu f) (hn : n + 6 ≤ fv f) (hkc : fu f ≤ R.cells) (hks : fv f ≤ R.slots) :
    W p l e R s m args below meth c H' locs' k n (vx_MQ below CN (CX g D A ρ f ec) args s (fu f) (fv f) A) (F0 m f.2.1 ls' st') := by
  obtain ⟨hx, hb, hml, hts, hown, hin, hA, hAmb, hRR, hlt, hlk, htab, hret, hscr⟩ := C
  have hw := HR_w hR'
  have hS' := HR_S hR'
  unfold FinS at hF
  rw [hf] at hF
  obtain ⟨hsz, ⟨-, rfl, hT⟩ | ⟨h6, -⟩⟩ := hF
  · obtain ⟨idx, is, ic, text, w, t1, t2, t3, t4, t5, t6, t7, t8, t9⟩ := hT
    obtain ⟨sa, hstr⟩ := hAmb.2.2.2.2.2.1 _ t1
    have hfit : Bundle.fit (ename ec) = true := by
      match ec, hec with
      | 0, _ => decide
      | 1, _ => decide
      | 2, _ => decide
    have hnm : ∀ n ∈ XN, Bundle.fit n = true := by decide
    have hat : ∀ w ∈ vx_atS (mO md) ic (ename ec) XN, w.before args s = true := by
      intro w hw
      rcases t8 w hw with h | h
      · exact hts w h
      · rcases hAD w h with ⟨y, rfl⟩ | ⟨C, T, rfl⟩
        · exact va_Nw.use rfl (hAmb.2.2.1 _ h)
        · exact va_Nw.use rfl (hAmb.2.2.1 _ h)
    have hot : ∀ w, w ∈ WB → vx_ot w = true := fun w h => by unfold vx_ot; rw [hWB w h]; simp
    have hgood : ∀ w ∈ Cond.classLink (mO md) idx (ename ec) :: Cond.initialized (ename ec) :: vx_atS (mO md) ic (ename ec) XN, vx_ot w = true := by
      intro w hw
      rcases List.mem_cons.mp hw with rfl | hw
      · exact hot _ t6
      · rcases List.mem_cons.mp hw with rfl | hw
        · exact hot _ t7
        · rcases t8 w hw with h | h
          · exact hot w h
          · rcases hAD w h with ⟨y, rfl⟩ | ⟨C, T, rfl⟩ <;> rfl
    have htn : ∀ z : Nat, ∀ x ∈ c.exceptionTable.toList, covers x z = false := by
      intro z x hx
      rw [htab.2 hx0, tab_nil t9] at hx
      cases hx
    have hX : ∀ t : State, s.vm.Alike t.vm → H'.size ≤ t.heap.size → (∀ q : Nat, q < H'.size → t.heap[q]? = H'[q]?) → CX g D A ρ f ec (ename ec) s t := fun t ha h1 h2 =>
      ⟨⟨ρ', tys', rfl, hE, hft, hR'.1.moved ha, HRw_grow hw h2⟩, Nat.le_trans hS'.1 h1, fun q hq hnA => by rw [h2 q (Nat.lt_of_lt_of_le hq hS'.1)]; exact hS'.2.1 q hq hnA⟩
    obtain ⟨hf1, hf2⟩ := hRR
    unfold FRM at hf1
    unfold LOC at hf2
    have hfr : XN.length + 3 < R.frames := by show 2 + 3 < R.frames; omega
    have hlo : (([] : List Value).map fun v => v.category).sum + (13 * (XN.length + 1) + 43) ≤ R.locals := by show 0 + (13 * (2 + 1) + 43) ≤ R.locals; omega
    cases w with
    | false =>
      exact vx_throwS hx hb hlt hown hfit hnm (hts _ t6) (hts _ t7) hstr hat hgood hAmb.2.2.2.2.2.2.1 hAmb.2.2.2.2.2.2.2.1 hS' (hsz.trans hml.symm) t3 t4 t5.1 t5.2.1 t5.2.2 (htn _) hfr hlo (by omega) (by omega) hlk hX hS'.2.2 hk hn
    | true =>
      exact vx_throwSW hx hb hlt hown hfit hnm (hts _ t6) (hts _ t7) hstr hat hgood hAmb.2.2.2.2.2.2.1 hAmb.2.2.2.2.2.2.2.1 hS' (hsz.trans hml.symm) t3 t4 t5.1 t5.2.1 t5.2.2 (htn _) hfr hlo (by omega) (by omega) hlk hX hS'.2.2 hk hn
  · omega
theorem met_thr {rc : RC} (hWB : ∀ w ∈ WB, goodWord w = true) (hAD : ADok AD) (IH : RSnd TB WB AD SR FW STP l g D sl rc) {x d : Nat} (hx0 : x ≠ 0) {mt : MT} (hmt : TB[x]? = some mt) (hM : MOK WB mt.1) {ρ : List Nat} {tys : TY} {ah : List AC} {nt : Nat} {H0 : Heap} {vs : List Value} {avs : List AV} {f : Fin9} {ec : Nat} (hrun : rc d x 0 (aargs 0 avs) [] ah nt = some f) (hf : f.1 = ec + 3) (hec : ec < 3) (h8 : 8 ≤ d) (hnt : tys.length = nt) (hav : F2 (vrel g ρ) avs vs) (hcat : acats avs ≤ mL mt.1) (hl : l.stackTraces = false) (hA : ∀ q, H0.size ≤ q → A q) (hw : HRw g D A ρ tys ah H0) :
    vx_Met l (mY mt.1) (cwd mt.1 :: WB) ({ frames := FRM d, cells := fu f, slots := fv f, locals := LOC d } : Room) (CP SR AD FW g D A tys vs H0) CN (CX g D A ρ f ec) (fu f) (fv f) A := by
  refine MetFree.of_bodyS (code := mC mt.1) (maxLocals := mL mt.1) (ret := mR mt.1) hM.2.2.2.1 ?_ ?_
  · intro args s m h hn
    obtain ⟨meth, c, h1, h2, h3, h4, h5, h6, -⟩ := cwd_spec (atoms_spec (ws := cwd mt.1 :: WB) h _ List.mem_cons_self) hn
    exact ⟨meth, c, h1, h2, h3, h4, h5, h6⟩
  · intro p e s m args below meth c s₁ B hml hP _
    have hh0 : s₁.heap = s.heap := by rw [B.state]; rfl
    obtain ⟨C, hR, ls, els, hL⟩ := entry_ok (sl := sl) hx0 hM hav hcat hl hA hw (rm := { frames := FRM d, cells := fu f, slots := fv f, locals := LOC d }) ⟨Nat.le_refl _, Nat.le_refl _⟩ B hml hP
    have K : W p l e (headSpec (cwd mt.1 :: WB) ({ frames := FRM d, cells := fu f, slots := fv f, locals := LOC d } : Room)).room s m args below meth c s.heap [] 0 0 (vx_MQ below CN (CX g D A ρ f ec) args s (fu f) (fv f) A) (entryFrame m args (mL mt.1)) := by
      rw [els]
      refine IH d x 0 _ [] ah nt f mt hmt hrun p e _ s m args below meth c s.heap [] 0 0 _ A ρ tys ls [] C hR hnt hL F2_0 (by rw [Nat.zero_add]; exact Nat.le_refl _) (by rw [Nat.zero_add]; exact Nat.le_refl _) ?_
      intro ρ' tys' H' locs' ls' st' k n hE hR' hft hF hc hk hn
      refine fin_thr hWB hAD hf hec h8 hx0 C hE hR' hft hF ?_ ?_ (Nat.le_refl _) (Nat.le_refl _)
      · rcases hc with h | h | h <;> omega
      · rcases hc with h | h | h <;> omega
    obtain ⟨t, a1, o, b1, b2, b3⟩ := K s₁ hh0 (Stand.of_body B)
    exact ⟨t, o, a1, b1, b2, b3⟩
section GO
variable {p : Program} {e : Env} {R : Room} {s : State} {m : MethodId} {args : Array Value} {below : List Frame} {meth : Method} {c : Code} {H : Heap} {locs : List Loc} {cells slots mc ms pc : Nat} {Q : State → Prop} {ls : Array Slot} {st0 rest : List Value} {ρ : List Nat} {f : Fin9} {a : Array Value}
theorem call_go (hr : va_Run p l e R s m args below meth c H locs cells slots mc ms (F0 m pc ls st0) rest (CQ g D A ρ f a) A) (hS : va_S A s.heap H locs)
    (kk : ∀ (v : Option Value) (ρ' : List Nat) (tys' : TY) (H1 : Heap) (locs1 : List Loc), vres g ρ' f v → Ext ρ ρ' → tys'.length = ft f → HR g D A s ρ' tys' (fh f) H1 locs1 → W p l e R s m args below meth c H1 locs1 (cells + mc) (slots + ms) Q (F0 m (pc + 3) ls (v.toList ++ rest))) : W p l e R s m args below meth c H locs cells slots Q (F0 m pc ls st0) := by
  intro T hT X
  obtain ⟨v, st₀, t, T', L, h0, X', hL, e1, e2, ⟨⟨v', ρ', tys', hv, hvr, hE, hft, hK, hw⟩, hz, hk⟩, st⟩ := hr T hT X
  cases hv
  rw [h0] at hz hk
  have hal : s.vm.Alike t.vm := by rw [← e2]; exact X'.warmed.alike
  obtain ⟨t2, a1, b1⟩ := kk v ρ' tys' T'.heap (locs ++ L) hvr hE hft (HR_of (hK.moved hal.symm) (by rw [e1]; exact hw) ⟨Nat.le_trans hS.1 (by rw [e1]; exact hz), fun q h1 h2 => by rw [e1, hk q (Nat.lt_of_lt_of_le h1 hS.1) h2]; exact hS.2.1 q h1 h2, fun q hq => (List.mem_append.mp hq).elim (hS.2.2 q) (hL q)⟩) T' rfl X'
  exact ⟨t2, st t2 a1, b1⟩
theorem call_go5 (hr : va_Run5 p l e R s m args below meth c H locs cells slots mc ms (F0 m pc ls st0) rest (CQ g D A ρ f a) A) (hS : va_S A s.heap H locs)
    (kk : ∀ (v : Option Value) (ρ' : List Nat) (tys' : TY) (H1 : Heap) (locs1 : List Loc), vres g ρ' f v → Ext ρ ρ' → tys'.length = ft f → HR g D A s ρ' tys' (fh f) H1 locs1 → W p l e R s m args below meth c H1 locs1 (cells + mc) (slots + ms) Q (F0 m (pc + 5) ls (v.toList ++ rest))) : W p l e R s m args below meth c H locs cells slots Q (F0 m pc ls st0) := by
  intro T hT X
  obtain ⟨v, st₀, t, T', L, h0, X', hL, e1, e2, ⟨⟨v', ρ', tys', hv, hvr, hE, hft, hK, hw⟩, hz, hk⟩, st⟩ := hr T hT X
  cases hv
  rw [h0] at hz hk
  have hal : s.vm.Alike t.vm := by rw [← e2]; exact X'.warmed.alike
  obtain ⟨t2, a1, b1⟩ := kk v ρ' tys' T'.heap (locs ++ L) hvr hE hft (HR_of (hK.moved hal.symm) (by rw [e1]; exact hw) ⟨Nat.le_trans hS.1 (by rw [e1]; exact hz), fun q h1 h2 => by rw [e1, hk q (Nat.lt_of_lt_of_le h1 hS.1) h2]; exact hS.2.1 q h1 h2, fun q hq => (List.mem_append.mp hq).elim (hS.2.2 q) (hL q)⟩) T' rfl X'
  exact ⟨t2, st t2 a1, b1⟩
theorem call_x {ec : Nat} (hr : vx_Run p l e R s m args below meth c H locs cells slots mc ms (F0 m pc ls st0) rest (CN a) (CX g D A ρ f ec) A) (hS : va_S A s.heap H locs)
    (kx : ∀ (ce : Cell) (q9 : Addr) (ρ' : List Nat) (tys' : TY) (H1 : Heap) (locs1 : List Loc), Ext ρ ρ' → tys'.length = ft f → HR g D A s ρ' tys' (fh f) H1 locs1 → H1[q9]? = some ce → ce.vm = .none → s.vm.findClass (ename ec) = some ce.cls → vx_W p l e R s m args below meth c H1 locs1 (cells + mc) (slots + ms) Q (F0 m pc ls rest) q9) : W p l e R s m args below meth c H locs cells slots Q (F0 m pc ls st0) := by
  intro T hT X
  rcases hr T hT X with ⟨v, st₀, t, T', L, h0, X', hL, e1, e2, hF, st⟩ | ⟨q, st₀, t, T', L, E, ce, h0, X', hL, e1, e2, ⟨⟨ρ', tys', rfl, hE, hft, hK, hw⟩, hz, hk⟩, hce, hcv, hcl, st⟩
  · exact (show False from hF).elim
  · rw [h0] at hz hk
    have hal : s.vm.Alike t.vm := by rw [← e2]; exact X'.warmed.alike
    obtain ⟨t2, a1, b1⟩ := kx ce q ρ' tys' T'.heap (locs ++ L) hE hft (HR_of (hK.moved hal.symm) (by rw [e1]; exact hw) ⟨Nat.le_trans hS.1 (by rw [e1]; exact hz), fun q h1 h2 => by rw [e1, hk q (Nat.lt_of_lt_of_le h1 hS.1) h2]; exact hS.2.1 q h1 h2, fun q hq => (List.mem_append.mp hq).elim (hS.2.2 q) (hL q)⟩) (by rw [e1]; exact hce) hcv hcl T' rfl X'
    exact ⟨t2, st.trans a1, b1⟩
end GO
end CALLS
