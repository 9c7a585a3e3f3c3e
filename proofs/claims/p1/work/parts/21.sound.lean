def fu (f : Fin9) : Nat := f.2.2.2.2.2.1
def fv (f : Fin9) : Nat := f.2.2.2.2.2.2
def fh (f : Fin9) : List AC := f.2.2.2.1
def ft (f : Fin9) : Nat := f.2.2.2.2.1
def bump (u v : Nat) (f : Fin9) : Fin9 := (f.1, f.2.1, f.2.2.1, f.2.2.2.1, f.2.2.2.2.1, u + fu f, v + fv f)
def Ext (ρ ρ' : List Nat) : Prop := ∀ (i a : Nat), ρ[i]? = some a → ρ'[i]? = some a
def Ctx (WB AD : List Jvm.Cond) (SR : List (String × Nat × String)) (FW : List (String × MethodName × MethodName)) (g : GV) (sl : Nat) (md : MD) (dep mi : Nat) (p : Program) (l : Launch) (R : Room) (s : State) (m : MethodId) (args : Array Value) (meth : Method) (c : Code) (A : Nat → Prop) : Prop :=
  p.tables.exec = Jvm.exec ∧ c.code = mC md ∧ c.maxLocals = mL md ∧ (∀ w ∈ WB, w.before args s = true) ∧ s.vm.findClass (mO md) = some m.cls ∧ (mI md = true → meth.name = "<init>") ∧ (∀ q, s.heap.size ≤ q → A q) ∧ Amb SR AD FW g A s ∧ (FRM dep ≤ R.frames ∧ LOC dep ≤ R.locals) ∧ l.stackTraces = false ∧ meth.locks = false ∧ c.exceptionTable.toList = tableOf ((mH md).map d4) ∧ meth.sig.returnType = mR md ∧
  (mi = 0 → ∃ xs : Nat → Int32, va_X g.2.1 sl xs s s.heap ∧ g.2.1 < s.heap.size ∧ ¬ A g.2.1 ∧ ∀ j, j < sl → g.1[j]? = some (xs j))
/-- where a run of numbers stops -/
def FinS (WB AD : List Jvm.Cond) (SR : List (String × Nat × String)) (STP : Als) (g : GV) (md : MD) (f : Fin9) (ρ : List Nat) (ls : Array Slot) (st : List Value) : Prop :=
  match f.1 with
  | 0 => ∃ v, st = [v] ∧ vrel g ρ f.2.2.1 v ∧ retok (mR md) f.2.2.1 = true ∧ decode (mC md) f.2.1 = .ok (.ireturn, 1)
  | 1 => st = [] ∧ decode (mC md) f.2.1 = .ok (.return_, 1)
  | 2 => ∃ v, st = [v] ∧ vrel g ρ f.2.2.1 v ∧ isRN f.2.2.1 = true ∧ decode (mC md) f.2.1 = .ok (.areturn, 1)
  | ec + 3 => st = [] ∧ ((THK WB AD SR md f.2.1 ec ∧ 1 ≤ fu f ∧ 6 ≤ fv f) ∨ (ec = 6 ∧ LR g ρ (mL md) STP ls))
/-- what a run of numbers says of the machine -/
def Snd (WB AD : List Jvm.Cond) (SR : List (String × Nat × String)) (FW : List (String × MethodName × MethodName)) (STP : Als) (l : Launch) (g : GV) (D : va_G) (sl : Nat) (md : MD) (dep mi pc : Nat) (als : Als) (ast : List AV) (ah : List AC) (nt : Nat) (f : Fin9) : Prop :=
  ∀ (p : Program) (e : Env) (R : Room) (s : State) (m : MethodId) (args : Array Value) (below : List Frame) (meth : Method) (c : Code) (H : Heap) (locs : List Loc) (cells slots : Nat) (Q : State → Prop) (A : Nat → Prop) (ρ : List Nat) (tys : TY) (ls : Array Slot) (st : List Value),
    Ctx WB AD SR FW g sl md dep mi p l R s m args meth c A → HR g D A s ρ tys ah H locs → tys.length = nt → LR g ρ (mL md) als ls → F2 (vrel g ρ) ast st → cells + fu f ≤ R.cells → slots + fv f ≤ R.slots →
    (∀ (ρ' : List Nat) (tys' : TY) (H' : Heap) (locs' : List Loc) (ls' : Array Slot) (st' : List Value) (k n : Nat), Ext ρ ρ' → HR g D A s ρ' tys' (fh f) H' locs' → tys'.length = ft f → FinS WB AD SR STP g md f ρ' ls' st' → (1 ≤ fu f → k + 1 ≤ cells + fu f) → (6 ≤ fv f → n + 6 ≤ slots + fv f) → k ≤ cells + fu f → n ≤ slots + fv f → W p l e R s m args below meth c H' locs' k n Q (F0 m f.2.1 ls' st')) →
    W p l e R s m args below meth c H locs cells slots Q (F0 m pc ls st)
def RSnd (TB : List MT) (WB AD : List Jvm.Cond) (SR : List (String × Nat × String)) (FW : List (String × MethodName × MethodName)) (STP : Als) (l : Launch) (g : GV) (D : va_G) (sl : Nat) (rc : RC) : Prop :=
  ∀ (dep mi pc : Nat) (als : Als) (ast : List AV) (ah : List AC) (nt : Nat) (f : Fin9) (mt : MT), TB[mi]? = some mt → rc dep mi pc als ast ah nt = some f → Snd WB AD SR FW STP l g D sl mt.1 dep mi pc als ast ah nt f
theorem addu_in {u v : Nat} {o : Option Fin9} {f : Fin9} (h : addu u v o = some f) : ∃ f', o = some f' ∧ f = bump u v f' := by
  match o, h with
  | some (rk, pc, a, ah, nt, x, y), h => exact ⟨_, rfl, (sj h).symm⟩
theorem aSt_in {len : Nat} {F : List AC → List AV → Option (List AV)} {ev : EV} {rc : RC} {dep mi pc : Nat} {als : Als} {ast : List AV} {ah : List AC} {nt : Nat} {f : Fin9} (h : aSt len F ev rc dep mi pc als ast ah nt = some f) : ∃ st, F ah ast = some st ∧ rc dep mi (pc + len) als st ah nt = some f := by
  unfold aSt at h
  split at h
  · rename_i st hst
    rw [fN_eq, fL_eq] at h
    exact ⟨st, hst, h⟩
  · cases h
theorem aWr_in {len : Nat} {w : List AV → Nat} {F : List AC → List AV → Option (List AC × List AV)} {ev : EV} {rc : RC} {dep mi pc : Nat} {als : Als} {ast : List AV} {ah : List AC} {nt : Nat} {f : Fin9} (h : aWr len w F ev rc dep mi pc als ast ah nt = some f) : ∃ r, F ah ast = some r ∧ rc dep mi (pc + len) als r.2 r.1 nt = some f := by
  unfold aWr at h
  split at h
  · rename_i r hr
    rw [fH_eq, fN_eq] at h
    exact ⟨r, hr, h⟩
  · cases h
theorem aMka_in {len kind : Nat} {ev : EV} {rc : RC} {dep mi pc : Nat} {als : Als} {ast : List AV} {ah : List AC} {nt : Nat} {f : Fin9} (h : aMka len kind ev rc dep mi pc als ast ah nt = some f) : ∃ r f', pmka kind ah nt ast = some r ∧ rc dep mi (pc + len) als r.2.1 r.1 (nt + 1) = some f' ∧ f = bump 1 r.2.2 f' := by
  unfold aMka at h
  split at h
  · rename_i r hr
    rw [fH_eq, fN_eq, fN_eq, fL_eq] at h
    obtain ⟨f', h1, h2⟩ := addu_in h
    exact ⟨r, f', hr, h1, h2⟩
  · cases h
theorem aPs_in {F : EV → Nat → Als → List AV → P1} {ev : EV} {rc : RC} {dep mi pc : Nat} {als : Als} {ast : List AV} {ah : List AC} {nt : Nat} {f : Fin9} (h : aPs F ev rc dep mi pc als ast ah nt = some f) : ∃ r, F ev pc als ast = some r ∧ rc dep mi r.1 r.2.1 r.2.2 ah nt = some f := by
  unfold aPs at h
  split at h
  · rename_i r hr
    rw [fN_eq, fA_eq, fL_eq] at h
    exact ⟨r, hr, h⟩
  · cases h
section ARMS
variable {TB : List MT} {WB AD : List Jvm.Cond} {SR : List (String × Nat × String)} {FW : List (String × MethodName × MethodName)} {STP : Als} {l : Launch} {g : GV} {D : va_G} {sl : Nat} {mt : MT} {dep mi pc : Nat} {als : Als} {ast : List AV} {ah : List AC} {nt : Nat} {f : Fin9} {ev : EV} {rc : RC}
theorem s_get (IH : RSnd TB WB AD SR FW STP l g D sl rc) (hmt : TB[mi]? = some mt) {idx x y : Nat} (hd : decode (mC mt.1) pc = .ok (.getfield idx, 3)) (hF : FOK WB (mO mt.1) idx x y) (h : aSt 3 (pgf x y) ev rc dep mi pc als ast ah nt = some f) : Snd WB AD SR FW STP l g D sl mt.1 dep mi pc als ast ah nt f := by
  obtain ⟨st0, h1, h2⟩ := aSt_in h
  intro p e R s m args below meth c H locs cells slots Q A ρ tys ls st C hR hnt hL hS hu hv k
  obtain ⟨hx, hb, hml, hts, hown, hin, hA, hAmb, hRR, hlt, hlk, htab, hret, hscr⟩ := id C
  exact gf_ok hx hb hts hown hF hR hS hd h1 (fun st' hS' => IH _ _ _ _ _ _ _ _ _ hmt h2 p e R s m args below meth c H locs cells slots Q A ρ tys ls st' C hR hnt hL hS' hu hv k)
theorem s_put (IH : RSnd TB WB AD SR FW STP l g D sl rc) (hmt : TB[mi]? = some mt) {idx x y z : Nat} (hd : decode (mC mt.1) pc = .ok (.putfield idx, 3)) (hF : FOK WB (mO mt.1) idx x y) (hP : POK (mO mt.1) (mI mt.1) x y z) (h : aWr 3 ref2 (ppf x y z) ev rc dep mi pc als ast ah nt = some f) : Snd WB AD SR FW STP l g D sl mt.1 dep mi pc als ast ah nt f := by
  obtain ⟨r, h1, h2⟩ := aWr_in h
  intro p e R s m args below meth c H locs cells slots Q A ρ tys ls st C hR hnt hL hS hu hv k
  obtain ⟨hx, hb, hml, hts, hown, hin, hA, hAmb, hRR, hlt, hlk, htab, hret, hscr⟩ := id C
  exact pf_ok hx hb hts hown hin hF hP hR hS hd h1 (fun H' locs' st' hR' hS' => IH _ _ _ _ _ _ _ _ _ hmt h2 p e R s m args below meth c H' locs' cells slots Q A ρ tys ls st' C hR' hnt hL hS' hu hv k)
theorem s_iald (IH : RSnd TB WB AD SR FW STP l g D sl rc) (hmt : TB[mi]? = some mt) (hd : decode (mC mt.1) pc = .ok (.iaload, 1)) (hev : ev.2.2 = sl) (hB : Bd g ev.1) (h : aIald ev rc dep mi pc als ast ah nt = some f) : Snd WB AD SR FW STP l g D sl mt.1 dep mi pc als ast ah nt f := by
  unfold aIald at h
  split at h
  · rename_i st0 h1
    rw [fN_eq, fL_eq] at h
    intro p e R s m args below meth c H locs cells slots Q A ρ tys ls st C hR hnt hL hS hu hv k
    obtain ⟨hx, hb, hml, hts, hown, hin, hA, hAmb, hRR, hlt, hlk, htab, hret, hscr⟩ := id C
    unfold scrI at h1
    split at h1
    · rename_i j rest
      match mi, hscr, h1, C, hmt, h with
      | 0, hscr, h1, C, hmt, h =>
        obtain ⟨xs, hX, hbl, hbA, hxs⟩ := hscr rfl
        have h1 : (if j < ev.2.2 then (match ev.1[j]? with
          | some b => if b.1 = b.2 then some ((.inl ((b.1 + 2147483648) % 4294967296) : AV) :: rest) else some (.inr (.inl j) :: rest)
          | none => none) else none) = some st0 := h1
        split at h1
        · rename_i hj
          rw [hev] at hj
          obtain ⟨v, st1, rfl, hr1, hS1⟩ := F2_cons hS
          obtain ⟨w, vs, rfl, hr2, hS2⟩ := F2_cons hS1
          rw [show v = .int (nI j) from hr1, show w = .ref g.2.1 from hr2]
          have hsl : sl < 2 ^ 31 := by
            obtain ⟨scr, q1, q2, q3, q4, q5⟩ := hX
            have := State.isArrayOf
            sorry
          refine va_sld hx hb hX hbl hbA hR.2.choose_spec.2.2.2.1 (vp_in_nI hj hsl) hd ?_
          rw [nI_clamp (by omega)]
          have hgj := hxs j hj
          split at h1
          · rename_i b hbj
            have hbd := hB j b hbj _ hgj
            split at h1
            · rename_i hbe
              have h1 := sj h1
              subst h1
              refine IH _ _ _ _ _ _ _ _ _ hmt h p e R s m args below meth c H locs cells slots Q A ρ tys ls _ C hR hnt hL (F2_mk ?_ hS2) hu hv k
              show Value.int (xs j) = .int (nI ((b.1 + 2147483648) % 4294967296))
              congr 1
              have := off_lt (xs j)
              rw [off_eq, off_nI]
              omega
            · have h1 := sj h1
              subst h1
              exact IH _ _ _ _ _ _ _ _ _ hmt h p e R s m args below meth c H locs cells slots Q A ρ tys ls _ C hR hnt hL (F2_mk ⟨_, hgj, rfl⟩ hS2) hu hv k
          · cases h1
        · cases h1
    · cases h1
  · obtain ⟨st0, h1, h2⟩ := aSt_in h
    intro p e R s m args below meth c H locs cells slots Q A ρ tys ls st C hR hnt hL hS hu hv k
    obtain ⟨hx, hb, hml, hts, hown, hin, hA, hAmb, hRR, hlt, hlk, htab, hret, hscr⟩ := id C
    exact iald_ok hx hb hR hS hd h1 (fun st' hS' => IH _ _ _ _ _ _ _ _ _ hmt h2 p e R s m args below meth c H locs cells slots Q A ρ tys ls st' C hR hnt hL hS' hu hv k)
end ARMS
