/-! each instruction of the run by numbers is sound -/
def fu (f : Fin9) : Nat := f.2.2.2.2.2.1
def fv (f : Fin9) : Nat := f.2.2.2.2.2.2
def fh (f : Fin9) : List AC := f.2.2.2.1
def ft (f : Fin9) : Nat := f.2.2.2.2.1
def bump (u v : Nat) (f : Fin9) : Fin9 := (f.1, f.2.1, f.2.2.1, f.2.2.2.1, f.2.2.2.2.1, u + fu f, v + fv f)
def Ext (ρ ρ' : List Nat) : Prop := ∀ (i a : Nat), ρ[i]? = some a → ρ'[i]? = some a
theorem Ext.rf {ρ : List Nat} : Ext ρ ρ := fun _ _ h => h
theorem Ext.tr {ρ ρ' ρ2 : List Nat} (h : Ext ρ ρ') (h' : Ext ρ' ρ2) : Ext ρ ρ2 := fun i a q => h' i a (h i a q)
def Ctx (WB AD : List Jvm.Cond) (SR : List (String × Nat × String)) (FW : FWT) (g : GV) (sl : Nat) (md : MD) (dep mi : Nat) (p : Program) (l : Launch) (R : Room) (s : State) (m : MethodId) (args : Array Value) (meth : Method) (c : Code) (A : Nat → Prop) : Prop :=
  p.tables.exec = Jvm.exec ∧ c.code = mC md ∧ c.maxLocals = mL md ∧ (∀ w ∈ WB, w.before args s = true) ∧ s.vm.findClass (mO md) = some m.cls ∧ (mI md = true → meth.name = "<init>") ∧ (∀ q, s.heap.size ≤ q → A q) ∧ Amb SR AD FW g A s ∧ (FRM dep ≤ R.frames ∧ LOC dep ≤ R.locals) ∧ l.stackTraces = false ∧ meth.locks = false ∧ ((mi = 0 → mH md = []) ∧ (mi ≠ 0 → c.exceptionTable.toList = tableOf ((mH md).map d4))) ∧ meth.sig.returnType = mR md ∧
  (mi = 0 → ∃ xs : Nat → Int32, va_X g.2.1 sl xs s s.heap ∧ g.2.1 < s.heap.size ∧ ¬ A g.2.1 ∧ ∀ j, j < sl → g.1[j]? = some (xs j))
/-- where a run of numbers stops -/
def FinS (WB AD : List Jvm.Cond) (SR : List (String × Nat × String)) (STP : Als × List AV) (g : GV) (md : MD) (f : Fin9) (ρ : List Nat) (ls : Array Slot) (st : List Value) : Prop :=
  match f.1 with
  | 0 => ∃ v, st = [v] ∧ vrel g ρ f.2.2.1 v ∧ retok (mR md) f.2.2.1 = true ∧ decode (mC md) f.2.1 = .ok (.ireturn, 1)
  | 1 => st = [] ∧ mR md = none ∧ decode (mC md) f.2.1 = .ok (.return_, 1)
  | 2 => ∃ v, st = [v] ∧ vrel g ρ f.2.2.1 v ∧ isRN f.2.2.1 = true ∧ rtk (mR md) = true ∧ decode (mC md) f.2.1 = .ok (.areturn, 1)
  | ec + 3 => ls.size = mL md ∧ ((ec < 3 ∧ st = [] ∧ THK WB AD SR md f.2.1 ec) ∨ (ec = 6 ∧ LR g ρ (mL md) STP.1 ls ∧ F2 (vrel g ρ) STP.2 st))
/-- what comes behind -/
def Kont (WB AD : List Jvm.Cond) (SR : List (String × Nat × String)) (STP : Als × List AV) (g : GV) (D : va_G) (md : MD) (f : Fin9) (p : Program) (l : Launch) (e : Env) (R : Room) (s : State) (m : MethodId) (args : Array Value) (below : List Frame) (meth : Method) (c : Code) (cells slots : Nat) (Q : State → Prop) (A : Nat → Prop) (ρ : List Nat) : Prop :=
  ∀ (ρ' : List Nat) (tys' : TY) (H' : Heap) (locs' : List Loc) (ls' : Array Slot) (st' : List Value) (k n : Nat), Ext ρ ρ' → HR g D A s ρ' tys' (fh f) H' locs' → tys'.length = ft f → FinS WB AD SR STP g md f ρ' ls' st' → (f.1 < 3 ∨ f.1 = 9 ∨ (k + 1 ≤ cells + fu f ∧ n + 6 ≤ slots + fv f)) → k ≤ cells + fu f → n ≤ slots + fv f → W p l e R s m args below meth c H' locs' k n Q (F0 m f.2.1 ls' st')
/-- what a run of numbers says of the machine -/
def Snd (WB AD : List Jvm.Cond) (SR : List (String × Nat × String)) (FW : FWT) (STP : Als × List AV) (l : Launch) (g : GV) (D : va_G) (sl : Nat) (md : MD) (dep mi pc : Nat) (als : Als) (ast : List AV) (ah : List AC) (nt : Nat) (f : Fin9) : Prop :=
  ∀ (p : Program) (e : Env) (R : Room) (s : State) (m : MethodId) (args : Array Value) (below : List Frame) (meth : Method) (c : Code) (H : Heap) (locs : List Loc) (cells slots : Nat) (Q : State → Prop) (A : Nat → Prop) (ρ : List Nat) (tys : TY) (ls : Array Slot) (st : List Value),
    Ctx WB AD SR FW g sl md dep mi p l R s m args meth c A → HR g D A s ρ tys ah H locs → tys.length = nt → LR g ρ (mL md) als ls → F2 (vrel g ρ) ast st → cells + fu f ≤ R.cells → slots + fv f ≤ R.slots →
    Kont WB AD SR STP g D md f p l e R s m args below meth c cells slots Q A ρ →
    W p l e R s m args below meth c H locs cells slots Q (F0 m pc ls st)
def RSnd (TB : List MT) (WB AD : List Jvm.Cond) (SR : List (String × Nat × String)) (FW : FWT) (STP : Als × List AV) (l : Launch) (g : GV) (D : va_G) (sl : Nat) (rc : RC) : Prop :=
  ∀ (dep mi pc : Nat) (als : Als) (ast : List AV) (ah : List AC) (nt : Nat) (f : Fin9) (mt : MT), TB[mi]? = some mt → rc dep mi pc als ast ah nt = some f → Snd WB AD SR FW STP l g D sl mt.1 dep mi pc als ast ah nt f
theorem addu_in {u v : Nat} {o : Option Fin9} {f : Fin9} (h : addu u v o = some f) : ∃ f', o = some f' ∧ f = bump u v f' := by
  match o, h with
  | some (rk, pc, a, ah, nt, x, y), h => exact ⟨_, rfl, (sj h).symm⟩
theorem aSt_in {len : Nat} {F : List AC → List AV → Option (List AV)} {ev : EV} {rc : RC} {dep mi pc : Nat} {als : Als} {ast : List AV} {ah : List AC} {nt : Nat} {f : Fin9} (h : aSt len F ev rc dep mi pc als ast ah nt = some f) : ∃ st, F ah ast = some st ∧ rc dep mi (pc + len) als st ah nt = some f := by
  unfold aSt at h
  split at h
  · rename_i st hst
    rw [fN_eq, fL_eq] at h
    exact ⟨st, hst, h⟩
  · cases h
theorem aWr_in {len : Nat} {w : List AV → Nat} {F : List AC → List AV → Option (List AC × List AV)} {ev : EV} {rc : RC} {dep mi pc : Nat} {als : Als} {ast : List AV} {ah : List AC} {nt : Nat} {f : Fin9} (h : aWr len w F ev rc dep mi pc als ast ah nt = some f) : ∃ r, F ah ast = some r ∧ rc dep mi (pc + len) als r.2 r.1 nt = some f := by
  unfold aWr at h
  split at h
  · rename_i r hr
    rw [fH_eq, fN_eq] at h
    exact ⟨r, hr, h⟩
  · cases h
theorem aMka_in {len kind : Nat} {ev : EV} {rc : RC} {dep mi pc : Nat} {als : Als} {ast : List AV} {ah : List AC} {nt : Nat} {f : Fin9} (h : aMka len kind ev rc dep mi pc als ast ah nt = some f) : ∃ r f', pmka kind ah nt ast = some r ∧ rc dep mi (pc + len) als r.2.1 r.1 (nt + 1) = some f' ∧ f = bump 1 r.2.2 f' := by
  unfold aMka at h
  split at h
  · rename_i r hr
    rw [fH_eq, fN_eq, fN_eq, fL_eq] at h
    obtain ⟨f', h1, h2⟩ := addu_in h
    exact ⟨r, f', hr, h1, h2⟩
  · cases h
theorem aPs_in {F : EV → Nat → Als → List AV → P1} {ev : EV} {rc : RC} {dep mi pc : Nat} {als : Als} {ast : List AV} {ah : List AC} {nt : Nat} {f : Fin9} (h : aPs F ev rc dep mi pc als ast ah nt = some f) : ∃ r, F ev pc als ast = some r ∧ rc dep mi r.1 r.2.1 r.2.2 ah nt = some f := by
  unfold aPs at h
  split at h
  · rename_i r hr
    rw [fN_eq, fA_eq, fL_eq] at h
    exact ⟨r, hr, h⟩
  · cases h
theorem LR_size {g : GV} {ρ : List Nat} {nL : Nat} {als : Als} {ls : Array Slot} (hL : LR g ρ nL als ls) : ls.size = nL := by
  obtain ⟨lv, h1, h2⟩ := hL
  exact h1.1
theorem F2_cats {g : GV} {ρ : List Nat} {l : List AV} {vs : List Value} (h : F2 (vrel g ρ) l vs) : (vs.map fun v => v.category).sum = acats l := by
  induction l generalizing vs with
  | nil => rw [F2_nil h]; rfl
  | cons a l ih =>
    obtain ⟨v, ws, rfl, h1, h2⟩ := F2_cons h
    show v.category + (ws.map fun v => v.category).sum = acat a + acats l
    rw [vcat h1, ih h2]
theorem F2_more {g : GV} {ρ ρ' : List Nat} (h : Ext ρ ρ') {l : List AV} {vs : List Value} (hS : F2 (vrel g ρ) l vs) : F2 (vrel g ρ') l vs := F2_mono (fun _ _ q => vrel_more h q) hS
section ARMS
variable {TB : List MT} {WB AD : List Jvm.Cond} {SR : List (String × Nat × String)} {FW : FWT} {STP : Als × List AV} {l : Launch} {g : GV} {D : va_G} {sl : Nat} {mt : MT} {dep mi pc : Nat} {als : Als} {ast : List AV} {ah : List AC} {nt : Nat} {f : Fin9} {ev : EV} {rc : RC}
theorem go_bump (IH : RSnd TB WB AD SR FW STP l g D sl rc) (hmt : TB[mi]? = some mt) {u v pc' nt' : Nat} {als' : Als} {ast' : List AV} {ah' : List AC} {f' : Fin9} (h2 : rc dep mi pc' als' ast' ah' nt' = some f') (hf : f = bump u v f')
    {p : Program} {e : Env} {R : Room} {s : State} {m : MethodId} {args : Array Value} {below : List Frame} {meth : Method} {c : Code} {H' : Heap} {locs' : List Loc} {cells slots : Nat} {Q : State → Prop} {A : Nat → Prop} {ρ ρ' : List Nat} {tys' : TY} {ls' : Array Slot} {st' : List Value}
    (C : Ctx WB AD SR FW g sl mt.1 dep mi p l R s m args meth c A) (hR : HR g D A s ρ' tys' ah' H' locs') (hnt : tys'.length = nt') (hL : LR g ρ' (mL mt.1) als' ls') (hS : F2 (vrel g ρ') ast' st') (hx : Ext ρ ρ') (hu : cells + fu f ≤ R.cells) (hv : slots + fv f ≤ R.slots)
    (K : Kont WB AD SR STP g D mt.1 f p l e R s m args below meth c cells slots Q A ρ) : W p l e R s m args below meth c H' locs' (cells + u) (slots + v) Q (F0 m pc' ls' st') := by
  subst hf
  have e1 : fu (bump u v f') = u + fu f' := rfl
  have e2 : fv (bump u v f') = v + fv f' := rfl
  have e3 : (bump u v f').1 = f'.1 := rfl
  rw [e1] at hu
  rw [e2] at hv
  refine IH dep mi pc' als' ast' ah' nt' f' mt hmt h2 p e R s m args below meth c H' locs' (cells + u) (slots + v) Q A ρ' tys' ls' st' C hR hnt hL hS (by omega) (by omega) ?_
  intro ρ2 tys2 H2 locs2 ls2 st2 k n hE hR2 hft hF hc hk hn
  refine K ρ2 tys2 H2 locs2 ls2 st2 k n (hx.tr hE) hR2 hft hF ?_ (by rw [e1]; omega) (by rw [e2]; omega)
  rw [e1, e2, e3]
  rcases hc with hc | hc | ⟨hc, hc'⟩
  · exact Or.inl hc
  · exact Or.inr (Or.inl hc)
  · exact Or.inr (Or.inr ⟨by omega, by omega⟩)
theorem s_st (IH : RSnd TB WB AD SR FW STP l g D sl rc) (hmt : TB[mi]? = some mt) {len : Nat} {F : List AC → List AV → Option (List AV)} (h : aSt len F ev rc dep mi pc als ast ah nt = some f)
    (row : ∀ (p : Program) (e : Env) (R : Room) (s : State) (m : MethodId) (args : Array Value) (below : List Frame) (meth : Method) (c : Code) (H : Heap) (locs : List Loc) (cells slots : Nat) (Q : State → Prop) (A : Nat → Prop) (ρ : List Nat) (tys : TY) (ls : Array Slot) (st : List Value) (st0 : List AV),
      Ctx WB AD SR FW g sl mt.1 dep mi p l R s m args meth c A → HR g D A s ρ tys ah H locs → ls.size = mL mt.1 → F2 (vrel g ρ) ast st → cells ≤ R.cells → slots ≤ R.slots → F ah ast = some st0 → (∀ st', F2 (vrel g ρ) st0 st' → W p l e R s m args below meth c H locs cells slots Q (F0 m (pc + len) ls st')) → W p l e R s m args below meth c H locs cells slots Q (F0 m pc ls st)) :
    Snd WB AD SR FW STP l g D sl mt.1 dep mi pc als ast ah nt f := by
  obtain ⟨st0, h1, h2⟩ := aSt_in h
  intro p e R s m args below meth c H locs cells slots Q A ρ tys ls st C hR hnt hL hS hu hv k
  exact row p e R s m args below meth c H locs cells slots Q A ρ tys ls st st0 C hR (LR_size hL) hS (Nat.le_trans (Nat.le_add_right _ _) hu) (Nat.le_trans (Nat.le_add_right _ _) hv) h1 (fun st' hS' => IH _ _ _ _ _ _ _ _ _ hmt h2 p e R s m args below meth c H locs cells slots Q A ρ tys ls st' C hR hnt hL hS' hu hv k)
theorem s_wr (IH : RSnd TB WB AD SR FW STP l g D sl rc) (hmt : TB[mi]? = some mt) {len : Nat} {w : List AV → Nat} {F : List AC → List AV → Option (List AC × List AV)} (h : aWr len w F ev rc dep mi pc als ast ah nt = some f)
    (row : ∀ (p : Program) (e : Env) (R : Room) (s : State) (m : MethodId) (args : Array Value) (below : List Frame) (meth : Method) (c : Code) (H : Heap) (locs : List Loc) (cells slots : Nat) (Q : State → Prop) (A : Nat → Prop) (ρ : List Nat) (tys : TY) (ls : Array Slot) (st : List Value) (r : List AC × List AV),
      Ctx WB AD SR FW g sl mt.1 dep mi p l R s m args meth c A → HR g D A s ρ tys ah H locs → ls.size = mL mt.1 → F2 (vrel g ρ) ast st → F ah ast = some r → (∀ (H' : Heap) (locs' : List Loc) st', HR g D A s ρ tys r.1 H' locs' → F2 (vrel g ρ) r.2 st' → W p l e R s m args below meth c H' locs' cells slots Q (F0 m (pc + len) ls st')) → W p l e R s m args below meth c H locs cells slots Q (F0 m pc ls st)) :
    Snd WB AD SR FW STP l g D sl mt.1 dep mi pc als ast ah nt f := by
  obtain ⟨r, h1, h2⟩ := aWr_in h
  intro p e R s m args below meth c H locs cells slots Q A ρ tys ls st C hR hnt hL hS hu hv k
  exact row p e R s m args below meth c H locs cells slots Q A ρ tys ls st r C hR (LR_size hL) hS h1 (fun H' locs' st' hR' hS' => IH _ _ _ _ _ _ _ _ _ hmt h2 p e R s m args below meth c H' locs' cells slots Q A ρ tys ls st' C hR' hnt hL hS' hu hv k)
theorem s_get (IH : RSnd TB WB AD SR FW STP l g D sl rc) (hmt : TB[mi]? = some mt) {idx x y : Nat} (hd : decode (mC mt.1) pc = .ok (.getfield idx, 3)) (hF : FOK WB (mO mt.1) idx x y) (h : aSt 3 (pgf x y) ev rc dep mi pc als ast ah nt = some f) : Snd WB AD SR FW STP l g D sl mt.1 dep mi pc als ast ah nt f := by
  refine s_st IH hmt h ?_
  intro p e R s m args below meth c H locs cells slots Q A ρ tys ls st st0 C hR hsz hS hcl hsl h1 k
  obtain ⟨hx, hb, hml, hts, hown, hin, hA, hAmb, hRR, hlt, hlk, htab, hret, hscr⟩ := id C
  exact gf_ok hx hb hts hown hF hR hS hd h1 k
theorem s_put (IH : RSnd TB WB AD SR FW STP l g D sl rc) (hmt : TB[mi]? = some mt) {idx x y z : Nat} (hd : decode (mC mt.1) pc = .ok (.putfield idx, 3)) (hF : FOK WB (mO mt.1) idx x y) (hP : POK (mO mt.1) (mI mt.1) x y z) (h : aWr 3 ref2 (ppf x y z) ev rc dep mi pc als ast ah nt = some f) : Snd WB AD SR FW STP l g D sl mt.1 dep mi pc als ast ah nt f := by
  refine s_wr IH hmt h ?_
  intro p e R s m args below meth c H locs cells slots Q A ρ tys ls st r C hR hsz hS h1 k
  obtain ⟨hx, hb, hml, hts, hown, hin, hA, hAmb, hRR, hlt, hlk, htab, hret, hscr⟩ := id C
  exact pf_ok hx hb hts hown hin hF hP hR hS hd h1 k
theorem s_bald (IH : RSnd TB WB AD SR FW STP l g D sl rc) (hmt : TB[mi]? = some mt) (hd : decode (mC mt.1) pc = .ok (.baload, 1)) (h : aSt 1 (pald k1) ev rc dep mi pc als ast ah nt = some f) : Snd WB AD SR FW STP l g D sl mt.1 dep mi pc als ast ah nt f := by
  refine s_st IH hmt h ?_
  intro p e R s m args below meth c H locs cells slots Q A ρ tys ls st st0 C hR hsz hS hcl hsl h1 k
  obtain ⟨hx, hb, hml, hts, hown, hin, hA, hAmb, hRR, hlt, hlk, htab, hret, hscr⟩ := id C
  exact bald_ok hx hb hR hS hd h1 k
theorem s_lald (IH : RSnd TB WB AD SR FW STP l g D sl rc) (hmt : TB[mi]? = some mt) (hd : decode (mC mt.1) pc = .ok (.laload, 1)) (h : aSt 1 (pald k2) ev rc dep mi pc als ast ah nt = some f) : Snd WB AD SR FW STP l g D sl mt.1 dep mi pc als ast ah nt f := by
  refine s_st IH hmt h ?_
  intro p e R s m args below meth c H locs cells slots Q A ρ tys ls st st0 C hR hsz hS hcl hsl h1 k
  obtain ⟨hx, hb, hml, hts, hown, hin, hA, hAmb, hRR, hlt, hlk, htab, hret, hscr⟩ := id C
  exact lald_ok hx hb hR hS hd h1 k
theorem s_aald (IH : RSnd TB WB AD SR FW STP l g D sl rc) (hmt : TB[mi]? = some mt) (hd : decode (mC mt.1) pc = .ok (.aaload, 1)) (h : aSt 1 (pald k3) ev rc dep mi pc als ast ah nt = some f) : Snd WB AD SR FW STP l g D sl mt.1 dep mi pc als ast ah nt f := by
  refine s_st IH hmt h ?_
  intro p e R s m args below meth c H locs cells slots Q A ρ tys ls st st0 C hR hsz hS hcl hsl h1 k
  obtain ⟨hx, hb, hml, hts, hown, hin, hA, hAmb, hRR, hlt, hlk, htab, hret, hscr⟩ := id C
  exact aald_ok hx hb hR hS hd h1 k
theorem s_iast (IH : RSnd TB WB AD SR FW STP l g D sl rc) (hmt : TB[mi]? = some mt) (hd : decode (mC mt.1) pc = .ok (.iastore, 1)) (h : aWr 1 ref3 (past s0) ev rc dep mi pc als ast ah nt = some f) : Snd WB AD SR FW STP l g D sl mt.1 dep mi pc als ast ah nt f := by
  refine s_wr IH hmt h ?_
  intro p e R s m args below meth c H locs cells slots Q A ρ tys ls st r C hR hsz hS h1 k
  obtain ⟨hx, hb, hml, hts, hown, hin, hA, hAmb, hRR, hlt, hlk, htab, hret, hscr⟩ := id C
  exact iast_ok hx hb hR hS hd h1 k
theorem s_bast (IH : RSnd TB WB AD SR FW STP l g D sl rc) (hmt : TB[mi]? = some mt) (hd : decode (mC mt.1) pc = .ok (.bastore, 1)) (h : aWr 1 ref3 (past s1) ev rc dep mi pc als ast ah nt = some f) : Snd WB AD SR FW STP l g D sl mt.1 dep mi pc als ast ah nt f := by
  refine s_wr IH hmt h ?_
  intro p e R s m args below meth c H locs cells slots Q A ρ tys ls st r C hR hsz hS h1 k
  obtain ⟨hx, hb, hml, hts, hown, hin, hA, hAmb, hRR, hlt, hlk, htab, hret, hscr⟩ := id C
  exact bast_ok hx hb hR hS hd h1 k
theorem s_last (IH : RSnd TB WB AD SR FW STP l g D sl rc) (hmt : TB[mi]? = some mt) (hd : decode (mC mt.1) pc = .ok (.lastore, 1)) (h : aWr 1 ref3 (past s2) ev rc dep mi pc als ast ah nt = some f) : Snd WB AD SR FW STP l g D sl mt.1 dep mi pc als ast ah nt f := by
  refine s_wr IH hmt h ?_
  intro p e R s m args below meth c H locs cells slots Q A ρ tys ls st r C hR hsz hS h1 k
  obtain ⟨hx, hb, hml, hts, hown, hin, hA, hAmb, hRR, hlt, hlk, htab, hret, hscr⟩ := id C
  exact last_ok hx hb hR hS hd h1 k
theorem s_aast (IH : RSnd TB WB AD SR FW STP l g D sl rc) (hmt : TB[mi]? = some mt) (hd : decode (mC mt.1) pc = .ok (.aastore, 1)) (hAO : ∀ (cj : Nat) (r : vw_C), vwCl[cj]? = some r → (cj = 17 ∨ cj = 15 ∨ cj = 14) → Jvm.Cond.castable r.1 "java/lang/Object" ∈ AD) (h : aWr 1 ref3 (fun ah => past (aok ah) ah) ev rc dep mi pc als ast ah nt = some f) : Snd WB AD SR FW STP l g D sl mt.1 dep mi pc als ast ah nt f := by
  refine s_wr IH hmt h ?_
  intro p e R s m args below meth c H locs cells slots Q A ρ tys ls st r C hR hsz hS h1 k
  obtain ⟨hx, hb, hml, hts, hown, hin, hA, hAmb, hRR, hlt, hlk, htab, hret, hscr⟩ := id C
  exact aast_ok hx hb (fun cj r q1 q2 => hAmb.2.2.1 _ (hAO cj r q1 q2)) hR hS hd h1 k
theorem s_iald (IH : RSnd TB WB AD SR FW STP l g D sl rc) (hmt : TB[mi]? = some mt) (hd : decode (mC mt.1) pc = .ok (.iaload, 1)) (hev : ev.1 ≠ [] → ev.2.2 = sl) (hsl : sl < 2 ^ 31) (hB : Bd g ev.1) (h : aIald ev rc dep mi pc als ast ah nt = some f) : Snd WB AD SR FW STP l g D sl mt.1 dep mi pc als ast ah nt f := by
  unfold aIald at h
  split at h
  · rename_i st0 h1
    rw [fN_eq, fL_eq] at h
    intro p e R s m args below meth c H locs cells slots Q A ρ tys ls st C hR hnt hL hS hu hv k
    obtain ⟨hx, hb, hml, hts, hown, hin, hA, hAmb, hRR, hlt, hlk, htab, hret, hscr⟩ := id C
    unfold scrI at h1
    split at h1
    · rename_i j rest
      match mi, hscr, h1, C, hmt, h with
      | 0, hscr, h1, C, hmt, h =>
        obtain ⟨xs, hX, hbl, hbA, hxs⟩ := hscr rfl
        have h1 : (if j < ev.2.2 then (match ev.1[j]? with
          | some b => if b.1 = b.2 then some ((.inl ((b.1 + 2147483648) % 4294967296) : AV) :: rest) else some (.inr (.inl j) :: rest)
          | none => none) else none) = some st0 := h1
        split at h1
        · rename_i hj
          have hne : ev.1 ≠ [] := by
            intro h0
            rw [h0] at h1
            cases h1
          have hev := hev hne
          rw [hev] at hj
          obtain ⟨v, st1, rfl, hr1, hS1⟩ := F2_cons hS
          obtain ⟨w, vs, rfl, hr2, hS2⟩ := F2_cons hS1
          rw [show v = .int (nI j) from hr1, show w = .ref g.2.1 from hr2]
          refine va_sld hx hb hX hbl hbA hR.2.choose_spec.2.2.2.1 (vp_in_nI hj hsl) hd ?_
          rw [nI_clamp (by omega)]
          have hgj := hxs j hj
          split at h1
          · rename_i b hbj
            have hbd := hB j b hbj _ hgj
            split at h1
            · rename_i hbe
              have h1 := sj h1
              subst h1
              refine IH _ _ _ _ _ _ _ _ _ hmt h p e R s m args below meth c H locs cells slots Q A ρ tys ls _ C hR hnt hL (F2_mk ?_ hS2) hu hv k
              refine congrArg Value.int ?_
              have := off_lt (xs j)
              rw [off_eq, off_nI]
              omega
            · have h1 := sj h1
              subst h1
              exact IH _ _ _ _ _ _ _ _ _ hmt h p e R s m args below meth c H locs cells slots Q A ρ tys ls _ C hR hnt hL (F2_mk ⟨_, hgj, rfl⟩ hS2) hu hv k
          · cases h1
        · cases h1
    · cases h1
  · refine s_st IH hmt h ?_
    intro p e R s m args below meth c H locs cells slots Q A ρ tys ls st st0 C hR hsz hS hcl hsl h1 k
    obtain ⟨hx, hb, hml, hts, hown, hin, hA, hAmb, hRR, hlt, hlk, htab, hret, hscr⟩ := id C
    exact iald_ok hx hb hR hS hd h1 k
theorem s_alen (IH : RSnd TB WB AD SR FW STP l g D sl rc) (hmt : TB[mi]? = some mt) (hd : decode (mC mt.1) pc = .ok (.arraylength, 1)) (hev : ev.1 ≠ [] → ev.2.2 = sl) (h : aAlen ev rc dep mi pc als ast ah nt = some f) : Snd WB AD SR FW STP l g D sl mt.1 dep mi pc als ast ah nt f := by
  unfold aAlen at h
  split at h
  · rename_i st0 h1
    rw [fN_eq, fL_eq] at h
    intro p e R s m args below meth c H locs cells slots Q A ρ tys ls st C hR hnt hL hS hu hv k
    obtain ⟨hx, hb, hml, hts, hown, hin, hA, hAmb, hRR, hlt, hlk, htab, hret, hscr⟩ := id C
    unfold scrL at h1
    split at h1
    · rename_i rest
      match mi, hscr, h1, C, hmt, h with
      | 0, hscr, h1, C, hmt, h =>
        obtain ⟨xs, hX, hbl, hbA, hxs⟩ := hscr rfl
        have h1 : (match ev.1 with
          | [] => none
          | _ :: _ => some ((.inl ev.2.2 : AV) :: rest)) = some st0 := h1
        have hne : ev.1 ≠ [] := by
          intro h0
          rw [h0] at h1
          cases h1
        have hev := hev hne
        split at h1
        · cases h1
        have h1 := sj h1
        subst h1
        obtain ⟨w, vs, rfl, hr2, hS2⟩ := F2_cons hS
        rw [show w = .ref g.2.1 from hr2]
        refine va_slen hx hb hX hbl hbA hR.2.choose_spec.2.2.2.1 hd ?_
        refine IH _ _ _ _ _ _ _ _ _ hmt h p e R s m args below meth c H locs cells slots Q A ρ tys ls _ C hR hnt hL (F2_mk ?_ hS2) hu hv k
        show Value.int (Int32.ofNat sl) = .int (nI ev.2.2)
        rw [hev]; rfl
    · cases h1
  · refine s_st IH hmt h ?_
    intro p e R s m args below meth c H locs cells slots Q A ρ tys ls st st0 C hR hsz hS hcl hsl h1 k
    obtain ⟨hx, hb, hml, hts, hown, hin, hA, hAmb, hRR, hlt, hlk, htab, hret, hscr⟩ := id C
    exact alen_ok hx hb hAmb.2.1 hR hS hd h1 k
theorem s_newa (IH : RSnd TB WB AD SR FW STP l g D sl rc) (hmt : TB[mi]? = some mt) {kind : Nat} {aty : ArrayType} (hd : decode (mC mt.1) pc = .ok (.newarray aty, 2)) (hka : (kind = 0 ∧ aty = .int) ∨ (kind = 1 ∧ aty = .boolean) ∨ (kind = 2 ∧ aty = .long)) (hwd : Jvm.Cond.arrayClass (newarray.typeOf aty) ∈ WB) (h : aMka 2 kind ev rc dep mi pc als ast ah nt = some f) : Snd WB AD SR FW STP l g D sl mt.1 dep mi pc als ast ah nt f := by
  obtain ⟨r, f', h1, h2, hf⟩ := aMka_in h
  intro p e R s m args below meth c H locs cells slots Q A ρ tys ls st C hR hnt hL hS hu hv k
  obtain ⟨hx, hb, hml, hts, hown, hin, hA, hAmb, hRR, hlt, hlk, htab, hret, hscr⟩ := id C
  have e1 : fu f = 1 + fu f' := by rw [hf]; rfl
  have e2 : fv f = r.2.2 + fv f' := by rw [hf]; rfl
  subst hnt
  exact newa_ok hx hb hts hA hka hwd hR hS hd h1 (by omega) (by omega) (fun ρ' tys' H' locs' st' hE hlen hR' hS' => go_bump IH hmt h2 hf C hR' hlen (LR_more hE hL) hS' hE hu hv k)
theorem s_newq (IH : RSnd TB WB AD SR FW STP l g D sl rc) (hmt : TB[mi]? = some mt) {kk idx : Nat} (hd : decode (mC mt.1) pc = .ok (.anewarray idx, 3)) (hkk : kk < 2) (hcl0 : Jvm.Cond.classLink (mO mt.1) idx (ecls kk) ∈ WB) (h : aMka 3 (kk + 3) ev rc dep mi pc als ast ah nt = some f) : Snd WB AD SR FW STP l g D sl mt.1 dep mi pc als ast ah nt f := by
  obtain ⟨r, f', h1, h2, hf⟩ := aMka_in h
  intro p e R s m args below meth c H locs cells slots Q A ρ tys ls st C hR hnt hL hS hu hv k
  obtain ⟨hx, hb, hml, hts, hown, hin, hA, hAmb, hRR, hlt, hlk, htab, hret, hscr⟩ := id C
  have e1 : fu f = 1 + fu f' := by rw [hf]; rfl
  have e2 : fv f = r.2.2 + fv f' := by rw [hf]; rfl
  have hov : va_AO (ecls kk) s := by
    match kk, hkk with
    | 0, _ => exact hAmb.2.2.2.1.1
    | 1, _ => exact hAmb.2.2.2.1.2
  subst hnt
  exact newq_ok hx hb hts hown hA hcl0 hov hR hS hd h1 (by omega) (by omega) (fun ρ' tys' H' locs' st' hE hlen hR' hS' => go_bump IH hmt h2 hf C hR' hlen (LR_more hE hL) hS' hE hu hv k)
theorem s_new (IH : RSnd TB WB AD SR FW STP l g D sl rc) (hmt : TB[mi]? = some mt) {idx x : Nat} {fk : List Nat} (hd : decode (mC mt.1) pc = .ok (.new idx, 3)) (hN : NOK WB (mO mt.1) idx x fk) (h : aNew x fk ev rc dep mi pc als ast ah nt = some f) : Snd WB AD SR FW STP l g D sl mt.1 dep mi pc als ast ah nt f := by
  unfold aNew at h
  obtain ⟨f', h2, hf⟩ := addu_in h
  rw [fH_eq, fN_eq, fL_eq] at h2
  intro p e R s m args below meth c H locs cells slots Q A ρ tys ls st C hR hnt hL hS hu hv k
  obtain ⟨hx, hb, hml, hts, hown, hin, hA, hAmb, hRR, hlt, hlk, htab, hret, hscr⟩ := id C
  have e1 : fu f = 1 + fu f' := by rw [hf]; rfl
  have e2 : fv f = fk.length + fv f' := by rw [hf]; rfl
  exact new_ok hx hb hts hown hA hN hR hS hd (by omega) (by omega) (fun ρ' H' locs' st' hE hR' hS' => go_bump IH hmt h2 hf C hR' hnt (LR_more hE hL) hS' hE hu hv k)
theorem s_ldc (IH : RSnd TB WB AD SR FW STP l g D sl rc) (hmt : TB[mi]? = some mt) {idx n len : Nat} (hd : (decode (mC mt.1) pc = .ok (.ldc idx, 2) ∧ len = 2) ∨ (decode (mC mt.1) pc = .ok (.ldc_w idx, 3) ∧ len = 3)) (hc : Jvm.Cond.constant (mO mt.1) idx (nI n) ∈ WB) (h : aLdc len n ev rc dep mi pc als ast ah nt = some f) : Snd WB AD SR FW STP l g D sl mt.1 dep mi pc als ast ah nt f := by
  refine s_st IH hmt h ?_
  intro p e R s m args below meth c H locs cells slots Q A ρ tys ls st st0 C hR hsz hS hcl hsl h1 k
  obtain ⟨hx, hb, hml, hts, hown, hin, hA, hAmb, hRR, hlt, hlk, htab, hret, hscr⟩ := id C
  have h1 := sj h1
  subst h1
  rcases hd with ⟨hd, rfl⟩ | ⟨hd, rfl⟩
  · exact lv_ldc hx hb hown (hts _ hc) hd (k _ (F2_mk rfl hS))
  · exact lv_ldcw hx hb hown (hts _ hc) hd (k _ (F2_mk rfl hS))
theorem aGd_in {F : Step} (h : aGd F ev rc dep mi pc als ast ah nt = some f) : 8 ≤ dep ∧ F ev rc dep mi pc als ast ah nt = some f := by
  unfold aGd at h
  split at h
  · rename_i h1
    exact ⟨Nat.le_of_ble_eq_true h1, h⟩
  · cases h
theorem s_cast (IH : RSnd TB WB AD SR FW STP l g D sl rc) (hmt : TB[mi]? = some mt) {idx x : Nat} (hd : decode (mC mt.1) pc = .ok (.checkcast idx, 3)) (hq : ∃ q, vwCl[x]? = some q ∧ Jvm.Cond.classLink (mO mt.1) idx q.1 ∈ WB) (h : aSt 3 (pcast x) ev rc dep mi pc als ast ah nt = some f) : Snd WB AD SR FW STP l g D sl mt.1 dep mi pc als ast ah nt f := by
  refine s_st IH hmt h ?_
  intro p e R s m args below meth c H locs cells slots Q A ρ tys ls st st0 C hR hsz hS hcl hsl h1 k
  obtain ⟨hx, hb, hml, hts, hown, hin, hA, hAmb, hRR, hlt, hlk, htab, hret, hscr⟩ := id C
  obtain ⟨q, hq1, hq2⟩ := hq
  unfold pcast at h1
  split at h1
  · rename_i i rest
    split at h1
    · rename_i o ho
      split at h1
      · rename_i hbq
        have h1 := sj h1
        subst h1
        have hbq := Nat.eq_of_beq_eq_true hbq
        obtain ⟨v, vs, rfl, hr1, hS1⟩ := F2_cons hS
        obtain ⟨b, hb1, rfl⟩ := hr1
        obtain ⟨cell, c1, c2, c3⟩ : ∃ cell : Cell, H[b]? = some cell ∧ cell.vm.isStatics = false ∧ s.vm.findClass q.1 = some cell.cls := by
          obtain ⟨hK, ws, e1, hP, hDD, hSS, hW⟩ := hR
          obtain ⟨en, hen, us, hus, rfl⟩ := ws_at e1 hW hb1 ho
          rw [hbq] at hen
          exact va_recv hK hP hq1 hen
        exact va_castS hx hb hown (hts _ hq2) (hR.1.1 x q hq1).2 ⟨cell, c1, c2, c3⟩ hd (k _ (F2_mk ⟨b, hb1, rfl⟩ hS1))
      · cases h1
    · cases h1
  · cases h1
theorem s_thr {ec : Nat} (hT : THK WB AD SR mt.1 pc ec) (h : aThr ec ev rc dep mi pc als ast ah nt = some f) : Snd WB AD SR FW STP l g D sl mt.1 dep mi pc als ast ah nt f := by
  unfold aThr at h
  match ast, h with
  | [], h =>
    have h := sj h
    intro p e R s m args below meth c H locs cells slots Q A ρ tys ls st C hR hnt hL hS hu hv k
    rw [F2_nil hS]
    subst h
    exact k ρ tys H locs ls [] cells slots Ext.rf hR hnt ⟨LR_size hL, Or.inl ⟨hT.choose_spec.choose_spec.choose_spec.choose_spec.choose_spec.2.1, rfl, hT⟩⟩ (Or.inr (Or.inr ⟨Nat.le_refl _, Nat.le_refl _⟩)) (Nat.le_add_right _ _) (Nat.le_add_right _ _)
theorem s_gets (IH : RSnd TB WB AD SR FW STP l g D sl rc) (hmt : TB[mi]? = some mt) {idx : Nat} (hd : decode (mC mt.1) pc = .ok (.getstatic idx, 3)) (hlink : Jvm.Cond.fieldLink (mO mt.1) idx ALn "DEFAULTCAPACITY_EMPTY_ELEMENTDATA" "[Ljava/lang/Object;" ∈ WB) (h : aGets ev rc dep mi pc als ast ah nt = some f) : Snd WB AD SR FW STP l g D sl mt.1 dep mi pc als ast ah nt f := by
  unfold aGets at h
  rw [fN_eq] at h
  intro p e R s m args below meth c H locs cells slots Q A ρ tys ls st C hR hnt hL hS hu hv k
  obtain ⟨hx, hb, hml, hts, hown, hin, hA, hAmb, hRR, hlt, hlk, htab, hret, hscr⟩ := id C
  exact gets_ok hx hb hts hown hAmb.1 hlink hR hS hd (fun st' hS' => IH _ _ _ _ _ _ _ _ _ hmt h p e R s m args below meth c H locs cells slots Q A ρ tys ls st' C hR hnt hL hS' hu hv k)
theorem tgt_ok {pc t : Nat} {o : Int} (h : tgt pc o = some t) : (pc : Int) + o = (t : Int) := by
  unfold tgt at h
  split at h
  · have := sj h; omega
  · cases h
theorem toInt_nI {n : Nat} (h : n < 2147483648) : (nI n).toInt = (n : Int) := by
  have h0 : (nI n).toInt = (n : Int).bmod 4294967296 := by simp [nI, Int32.toInt_ofNat]
  rw [h0, Int.bmod_def]
  split <;> omega
theorem s_tsw (IH : RSnd TB WB AD SR FW STP l g D sl rc) (hmt : TB[mi]? = some mt) {dflt lo hi : Int} {offs : Array Int} {len : Nat} (hd : decode (mC mt.1) pc = .ok (.tableswitch dflt lo hi offs, len)) (h : aTsw dflt lo hi offs ev rc dep mi pc als ast ah nt = some f) : Snd WB AD SR FW STP l g D sl mt.1 dep mi pc als ast ah nt f := by
  unfold aTsw at h
  split at h
  · rename_i n rest
    split at h
    · rename_i hn
      split at h
      · rename_i t ht
        rw [fN_eq] at h
        intro p e R s m args below meth c H locs cells slots Q A ρ tys ls st C hR hnt hL hS hu hv k
        obtain ⟨hx, hb, hml, hts, hown, hin, hA, hAmb, hRR, hlt, hlk, htab, hret, hscr⟩ := id C
        obtain ⟨v, vs, rfl, hr1, hS1⟩ := F2_cons hS
        rw [show v = .int (nI n) from hr1]
        have kk : W p l e R s m args below meth c H locs cells slots Q (F0 m t ls vs) := IH _ _ _ _ _ _ _ _ _ hmt h p e R s m args below meth c H locs cells slots Q A ρ tys ls vs C hR hnt hL hS1 hu hv k
        have en := toInt_nI hn
        unfold tsw at ht
        split at ht
        · rename_i h3
          exact lv_tableOut hx hb hd (Or.inl (by rw [en]; exact h3)) (tgt_ok ht) kk
        · rename_i h3
          split at ht
          · rename_i h4
            exact lv_tableOut hx hb hd (Or.inr (by rw [en]; exact h4)) (tgt_ok ht) kk
          · rename_i h4
            split at ht
            · rename_i o ho
              exact lv_tableIn hx hb hd (by rw [en]; exact h3) (by rw [en]; exact h4) (by rw [en]; exact ho) (tgt_ok ht) kk
            · cases ht
      · cases h
    · cases h
  · cases h
theorem s_obj (IH : RSnd TB WB AD SR FW STP l g D sl rc) (hmt : TB[mi]? = some mt) {idx : Nat} (hd : decode (mC mt.1) pc = .ok (.invokespecial idx, 3)) (hl1 : Jvm.Cond.methodLink (mO mt.1) idx objectInit ∈ WB) (hl2 : Jvm.Cond.instanceMethod objectInit ∈ WB) (hl3 : Jvm.Cond.code objectInit ⟨#[0xb1]⟩ 1 none ∈ WB) (h : aGd aObj ev rc dep mi pc als ast ah nt = some f) : Snd WB AD SR FW STP l g D sl mt.1 dep mi pc als ast ah nt f := by
  have h8 := (aGd_in h).1
  replace h := (aGd_in h).2
  unfold aObj at h
  split at h
  · rename_i a rest
    split at h
    · rename_i h0
      rw [fN_eq] at h
      have h0 := and_cases h0
      intro p e R s m args below meth c H locs cells slots Q A ρ tys ls st C hR hnt hL hS hu hv k
      obtain ⟨hx, hb, hml, hts, hown, hin, hA, hAmb, hRR, hlt, hlk, htab, hret, hscr⟩ := id C
      obtain ⟨v, vs, rfl, hr1, hS1⟩ := F2_cons hS
      obtain ⟨x, rfl⟩ := vref h0.1 hr1
      have hc := F2_cats hS1
      have h9 := Nat.le_of_ble_eq_true h0.2
      obtain ⟨hf1, hf2⟩ := hRR
      unfold FRM at hf1
      unfold LOC at hf2
      exact W.objInit hx hb hown (hts _ hl1) (hts _ hl2) (hts _ hl3) rfl ((LR_size hL).trans hml.symm) rfl hd (by omega) (by show 2 * 0 + _ + 12 ≤ _; omega) (IH _ _ _ _ _ _ _ _ _ hmt h p e R s m args below meth c H locs cells slots Q A ρ tys ls vs C hR hnt hL hS1 hu hv k)
    · cases h
  · cases h
theorem s_ps (IH : RSnd TB WB AD SR FW STP l g D sl rc) (hmt : TB[mi]? = some mt) (hev : ev.1 ≠ [] → ev.2.2 = sl) (hB : Bd g ev.1) (hM : ev.2.1 < 64 → ∀ x, g.1[0]? = some x → x &&& 63 = nI ev.2.1) {ins : Instr} (hd : decode (mC mt.1) pc = .ok (ins, ilen ins)) (h : aPs (fun ev pc als ast => ps1 ev.1 ev.2.1 (mL mt.1) ins pc als ast) ev rc dep mi pc als ast ah nt = some f) : Snd WB AD SR FW STP l g D sl mt.1 dep mi pc als ast ah nt f := by
  obtain ⟨r, h1, h2⟩ := aPs_in h
  intro p e R s m args below meth c H locs cells slots Q A ρ tys ls st C hR hnt hL hS hu hv k
  obtain ⟨hx, hb, hml, hts, hown, hin, hA, hAmb, hRR, hlt, hlk, htab, hret, hscr⟩ := id C
  exact ps1_ok hx hb hB hM hL hS ins hd h1 (fun ls' st' hL' hS' => IH _ _ _ _ _ _ _ _ _ hmt h2 p e R s m args below meth c H locs cells slots Q A ρ tys ls' st' C hR hnt hL' hS' hu hv k)
theorem s_ret (hd : decode (mC mt.1) pc = .ok (.ireturn, 1)) (h : aRet (mR mt.1) ev rc dep mi pc als ast ah nt = some f) : Snd WB AD SR FW STP l g D sl mt.1 dep mi pc als ast ah nt f := by
  unfold aRet at h
  split at h
  · rename_i a
    split at h
    · rename_i hr
      have h := sj h
      intro p e R s m args below meth c H locs cells slots Q A ρ tys ls st C hR hnt hL hS hu hv k
      obtain ⟨v, vs, rfl, hr1, hS1⟩ := F2_cons hS
      rw [F2_nil hS1]
      subst h
      exact k ρ tys H locs ls [v] cells slots Ext.rf hR hnt ⟨v, rfl, hr1, hr, hd⟩ (Or.inl (show (0 : Nat) < 3 by decide)) (Nat.le_add_right _ _) (Nat.le_add_right _ _)
    · cases h
  · cases h
theorem s_void (hd : decode (mC mt.1) pc = .ok (.return_, 1)) (hr0 : mR mt.1 = none) (h : aVoid ev rc dep mi pc als ast ah nt = some f) : Snd WB AD SR FW STP l g D sl mt.1 dep mi pc als ast ah nt f := by
  unfold aVoid at h
  split at h
  · have h := sj h
    intro p e R s m args below meth c H locs cells slots Q A ρ tys ls st C hR hnt hL hS hu hv k
    rw [F2_nil hS]
    subst h
    exact k ρ tys H locs ls [] cells slots Ext.rf hR hnt ⟨rfl, hr0, hd⟩ (Or.inl (show (1 : Nat) < 3 by decide)) (Nat.le_add_right _ _) (Nat.le_add_right _ _)
  · cases h
theorem s_aret (hd : decode (mC mt.1) pc = .ok (.areturn, 1)) (hr0 : rtk (mR mt.1) = true) (h : aARet ev rc dep mi pc als ast ah nt = some f) : Snd WB AD SR FW STP l g D sl mt.1 dep mi pc als ast ah nt f := by
  unfold aARet at h
  split at h
  · rename_i a
    split at h
    · rename_i hr
      have h := sj h
      intro p e R s m args below meth c H locs cells slots Q A ρ tys ls st C hR hnt hL hS hu hv k
      obtain ⟨v, vs, rfl, hr1, hS1⟩ := F2_cons hS
      rw [F2_nil hS1]
      subst h
      exact k ρ tys H locs ls [v] cells slots Ext.rf hR hnt ⟨v, rfl, hr1, hr, hr0, hd⟩ (Or.inl (show (2 : Nat) < 3 by decide)) (Nat.le_add_right _ _) (Nat.le_add_right _ _)
    · cases h
  · cases h
theorem s_max (IH : RSnd TB WB AD SR FW STP l g D sl rc) (hmt : TB[mi]? = some mt) {idx : Nat} (hd : decode (mC mt.1) pc = .ok (.invokestatic idx, 3)) (hl1 : Jvm.Cond.methodLink (mO mt.1) idx Lib.Math.max.name ∈ WB) (hl2 : Jvm.Cond.static Lib.Math.max.name ∈ WB) (hl3 : Jvm.Cond.initialized "java/lang/Math" ∈ WB) (hl4 : Jvm.Cond.code Lib.Math.max.name Lib.Math.max.code 2 (some .int) ∈ WB) (h : aGd (aSt 3 pmax) ev rc dep mi pc als ast ah nt = some f) : Snd WB AD SR FW STP l g D sl mt.1 dep mi pc als ast ah nt f := by
  have h8 := (aGd_in h).1
  replace h := (aGd_in h).2
  refine s_st IH hmt h ?_
  intro p e R s m args below meth c H locs cells slots Q A ρ tys ls st st0 C hR hsz hS hcl hsl h1 k
  obtain ⟨hx, hb, hml, hts, hown, hin, hA, hAmb, hRR, hlt, hlk, htab, hret, hscr⟩ := id C
  unfold pmax at h1
  split at h1
  · rename_i b a rest
    split at h1
    · rename_i h9
      split at h1
      · rename_i ha
        split at h1
        · rename_i hbb
          have h1 := sj h1
          subst h1
          obtain ⟨v, vs, rfl, hr1, hS1⟩ := F2_cons hS
          obtain ⟨w, us, rfl, hr2, hS2⟩ := F2_cons hS1
          rw [show v = .int (nI b) from hr1, show w = .int (nI a) from hr2]
          have hc := F2_cats hS2
          have h9 := Nat.le_of_ble_eq_true h9
          obtain ⟨hf1, hf2⟩ := hRR
          unfold FRM at hf1
          unfold LOC at hf2
          refine va_mmax hx hb (hml.trans hsz.symm) hown (hts _ hl1) (hts _ hl2) (hts _ hl3) (hts _ hl4) (by omega) (by omega) hcl hsl hd (k _ (F2_mk ?_ hS2))
          show Value.int (if nI a < nI b then nI b else nI a) = .int (nI (if a ≤ b then b else a))
          congr 1
          have q1 := off_ltI (nI a) (nI b)
          rw [off_nI, off_nI] at q1
          by_cases hab : a < b
          · rw [if_pos (q1.mpr (by omega)), if_pos (by omega)]
          · rw [if_neg (fun z => hab (by have := q1.mp z; omega))]
            by_cases hab2 : a ≤ b
            · rw [if_pos hab2]
              have : a = b := by omega
              rw [this]
            · rw [if_neg hab2]
        · cases h1
      · cases h1
    · cases h1
  · cases h1
theorem alk_run (d : AV) (a : Nat → AV) (l : Als) (dp k : Nat) (is : List Nat) : alk d (is.map (fun i => (dp + i, a i)) ++ l) k = if dp ≤ k ∧ k - dp ∈ is then a (k - dp) else alk d l k := by
  induction is with
  | nil => simp
  | cons i is ih =>
    show alk d ((dp + i, a i) :: (is.map (fun i => (dp + i, a i)) ++ l)) k = _
    by_cases hk : k = dp + i
    · subst hk
      rw [alk_here, if_pos ⟨by omega, by simp⟩]
      congr 1; omega
    · rw [alk_there d _ _ hk, ih]
      by_cases h2 : dp ≤ k ∧ k - dp ∈ is
      · rw [if_pos h2, if_pos ⟨h2.1, List.mem_cons_of_mem _ h2.2⟩]
      · rw [if_neg h2, if_neg]
        intro h3
        rcases List.mem_cons.mp h3.2 with h4 | h4
        · omega
        · exact h2 ⟨h3.1, h4⟩
theorem s_copy (IH : RSnd TB WB AD SR FW STP l g D sl rc) (hmt : TB[mi]? = some mt) {idx : Nat} (hd : decode (mC mt.1) pc = .ok (.invokestatic idx, 3)) (hl1 : Jvm.Cond.methodLink (mO mt.1) idx arraycopyName ∈ WB) (hl2 : Jvm.Cond.native arraycopyName ∈ WB) (hl3 : Jvm.Cond.static arraycopyName ∈ WB) (hl4 : Jvm.Cond.initialized "java/lang/System" ∈ WB) (h : aGd (aWr 3 ref3 pcopy) ev rc dep mi pc als ast ah nt = some f) : Snd WB AD SR FW STP l g D sl mt.1 dep mi pc als ast ah nt f := by
  have h8 := (aGd_in h).1
  replace h := (aGd_in h).2
  refine s_wr IH hmt h ?_
  intro p e R s m args below meth c H locs cells slots Q A ρ tys ls st r C hR hsz hS h1 k
  obtain ⟨hx, hb, hml, hts, hown, hin, hA, hAmb, hRR, hlt, hlk, htab, hret, hscr⟩ := id C
  unfold pcopy at h1
  split at h1
  · rename_i n dp j sp i rest
    split at h1
    · rename_i ci hci
      split at h1
      · rename_i cj hcj
        split at h1
        · rename_i hn
          split at h1
          · rename_i hdp
            split at h1
            · rename_i hsp
              split at h1
              · rename_i c' hc'
                split at h1
                · rename_i h9
                  have h1 := sj h1
                  subst h1
                  unfold copyA at hc'
                  split at hc'
                  · rename_i t0 ln ups d t2 ln2 ups2 d2
                    split at hc'
                    · rename_i hs1
                      split at hc'
                      · rename_i hs2
                        have hc' := sj hc'
                        obtain ⟨v1, s1, rfl, hr1, hS1⟩ := F2_cons hS
                        obtain ⟨v2, s2, rfl, hr2, hS2⟩ := F2_cons hS1
                        obtain ⟨v3, s3, rfl, hr3, hS3⟩ := F2_cons hS2
                        obtain ⟨v4, s4, rfl, hr4, hS4⟩ := F2_cons hS3
                        obtain ⟨v5, s5, rfl, hr5, hS5⟩ := F2_cons hS4
                        obtain ⟨qj, hqj, rfl⟩ := hr3
                        obtain ⟨qi, hqi, rfl⟩ := hr5
                        rw [show v1 = .int (nI n) from hr1, show v2 = .int (nI dp) from hr2, show v4 = .int (nI sp) from hr4]
                        obtain ⟨hK, ws, e1, hP, hDD, hSS, hW⟩ := hR
                        obtain ⟨eni, heni, cAi, hti, fi, rfl, hfi⟩ := ws_at e1 hW hqi hci
                        obtain ⟨enj, henj, cAj, htj, fj, rfl, hfj⟩ := ws_at e1 hW hqj hcj
                        have hc := F2_cats hS5
                        have h9 := Nat.le_of_ble_eq_true h9
                        obtain ⟨hf1, hf2⟩ := hRR
                        unfold FRM at hf1
                        unfold LOC at hf2
                        have cn := nI_clamp (n := n) (by omega)
                        have cd := nI_clamp (n := dp) (by omega)
                        have cs := nI_clamp (n := sp) (by omega)
                        have hnf : nativeFrameWords "java/lang/System" "arraycopy" 5 ≤ 100 := by decide +kernel
                        have nn : ∀ z : Nat, z < 100000 → ¬ nI z < 0 := by
                          intro z hz h0
                          have := (off_ltI (nI z) 0).mp h0
                          rw [off_nI, show off 0 = 2147483648 from rfl] at this
                          omega
                        refine va_copyi (D := D) hx hb (hml.trans hsz.symm) hown (hts _ hl1) (hts _ hl2) (hts _ hl3) (hts _ hl4) hK hP hDD hSS i j t0 t2 heni henj hti htj rfl (nn sp hsp) (nn dp hdp) (nn n hn) (by rw [cs, cn]; exact hs1) (by rw [cd, cn]; exact hs2) (fun _ _ => rfl) (by omega) (by omega) hd ?_
                        intro H1 locs1 hP1 hD1 hS9
                        refine k H1 locs1 s5 ⟨hK, _, ?_, hP1, hD1, hS9, ?_⟩ hS5
                        · rw [set_fst henj]; exact e1
                        · rw [← hc']
                          refine F2_set hW j ⟨cAj, htj, _, rfl, ?_⟩
                          intro q hq
                          rw [alk_run, cn, cd, cs]
                          unfold va_cpy
                          by_cases hin2 : dp ≤ q ∧ q < dp + n
                          · rw [if_pos hin2, if_pos ⟨hin2.1, List.mem_range.mpr (by omega)⟩]
                            exact hfi _ (by omega)
                          · rw [if_neg hin2, if_neg (fun z => hin2 ⟨z.1, by have := List.mem_range.mp z.2; omega⟩)]
                            exact hfj _ hq
                      · cases hc'
                    · cases hc'
                  · cases hc'
                · cases h1
              · cases h1
            · cases h1
          · cases h1
        · cases h1
      · cases h1
    · cases h1
  · cases h1
end ARMS
