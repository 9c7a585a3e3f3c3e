/-! a method that comes to no end, piece by piece: from its entry to the call that doesn't come back -/
def nonote (fs : List Frame) : Bool := !(fs.any fun | .thenThrow _ | .throwNew .. => true | _ => false)
theorem nonote_in {fs : List Frame} (h : nonote fs = true) : (fs.any fun | .thenThrow _ | .throwNew .. => true | _ => false) = false := by
  unfold nonote at h
  exact (Bool.not_eq_true' _).mp h
def NXE (l : Launch) (e : Env) : Prop := l.admits e ∧ FairCas e.choices ∧ FairClock e.choices ∧ l.stackTraces = false ∧ e.classPath SOEn = none ∧ e.classPath NDFn = none
/-- the method x, called with r frames left, on this world with these arguments: the machine stops -/
def NXP (p : Program) (l : Launch) (e : Env) (g : GV) (D : va_G) (x : Nat) (rm : Room) (AH : List AC) (nt : Nat) (avs : List AV) (r : Nat) : Prop :=
  ∀ (mt : MT), TB[x]? = some mt → ∀ (s : State) (m : MethodId) (args : Array Value) (below : List Frame) (A : Nat → Prop) (ρ : List Nat) (tys : TY) (vs : List Value),
    s.frames = .invoking m args :: below → below.length + r = (e.platform.limitsFor 0).1 → nonote below = true → (headSpec (cwd mt.1 :: WB) rm).appliesLoose (mY mt.1) e.platform s = true → tys.length = nt → F2 (vrel g ρ) avs vs → HRw g D A ρ tys AH s.heap → (∀ q, s.heap.size ≤ q → A q) → CP SR AD FW g D A tys vs s.heap args s → NXV s → ∃ t, Steps p.tables e below s t ∧ Dead p.tables e below t
section PIECE
variable {p : Program} {l : Launch} {e : Env} {g : GV} {D : va_G} {sl : Nat}
theorem nx_piece (hE : NXE l e) {x d : Nat} (hx0 : x ≠ 0) {mt : MT} (hmt : TB[x]? = some mt) {rm : Room} {AH ah' : List AC} {nt nt' r pcs u v : Nat} {avs : List AV} {rc : RC} {STP : Als × List AV} (IH : RSnd TB WB AD SR FW STP l g D sl rc)
    (hrun : rc d x 0 (aargs 0 avs) [] AH nt = some (9, pcs, .inl 0, ah', nt', u, v)) (hcat : acats avs ≤ mL mt.1) (hrm : FRM d ≤ rm.frames ∧ LOC d ≤ rm.locals) (hu : u ≤ rm.cells) (hv : v ≤ rm.slots)
    (kk : ∀ (s : State) (m : MethodId) (args : Array Value) (below : List Frame) (meth : Method) (c : Code) (A : Nat → Prop) (ρ : List Nat) (tys : TY) (H : Heap) (locs : List Loc) (ls : Array Slot) (st : List Value) (cells slots : Nat),
      Ctx WB AD SR FW g sl mt.1 d x p l rm s m args meth c A → HR g D A s ρ tys ah' H locs → tys.length = nt' → LR g ρ (mL mt.1) STP.1 ls → F2 (vrel g ρ) STP.2 st → cells ≤ u → slots ≤ v → below.length + r = (e.platform.limitsFor 0).1 → nonote below = true → NXV s → W p l e rm s m args below meth c H locs cells slots (Dead p.tables e below) (F0 m pcs ls st)) :
    NXP p l e g D x rm AH nt avs r := by
  intro mt' hmt' s m args below A ρ tys vs hf hr hnn happ hnt hav hw hA hP hV
  cases hmt.symm.trans hmt'
  obtain ⟨ha, hc, hk, hlt, -, -⟩ := hE
  have hM := MO_ok x mt hx0 hmt
  obtain ⟨meth, c, B, hml, hst⟩ := nx_body (l := l) (code := mC mt.1) (maxLocals := mL mt.1) (ret := mR mt.1) hM.2.2.2.1 (fun args s m h hn => by
    obtain ⟨meth, c, h1, h2, h3, h4, h5, h6, -⟩ := cwd_spec (atoms_spec (ws := cwd mt.1 :: WB) h _ List.mem_cons_self) hn
    exact ⟨meth, c, h1, h2, h3, h4, h5, h6⟩) p ha hc hk hf happ
  obtain ⟨C, hR, ls, els, hL⟩ := entry_ok (sl := sl) hx0 hM hav hcat hlt hA hw (rm := rm) hrm B hml hP
  have hh0 : (s.setFrames (.java (entryFrame m args (mL mt.1)) :: below)).heap = s.heap := rfl
  have K : W p l e (headSpec (cwd mt.1 :: WB) rm).room s m args below meth c s.heap [] 0 0 (Dead p.tables e below) (entryFrame m args (mL mt.1)) := by
    rw [els]
    refine IH d x 0 _ [] AH nt _ mt hmt hrun p e _ s m args below meth c s.heap [] 0 0 _ A ρ tys ls [] C hR hnt hL F2_0 (by show 0 + u ≤ rm.cells; omega) (by show 0 + v ≤ rm.slots; omega) ?_
    intro ρ' tys' H' locs' ls' st' k n hE hR' hft hF hc9 hk9 hn9
    have hk9 : k ≤ 0 + u := hk9
    have hn9 : n ≤ 0 + v := hn9
    have hF : ls'.size = mL mt.1 ∧ ((6 < 3 ∧ st' = [] ∧ THK WB AD SR mt.1 pcs 6) ∨ (6 = 6 ∧ LR g ρ' (mL mt.1) STP.1 ls' ∧ F2 (vrel g ρ') STP.2 st')) := hF
    rcases hF.2 with ⟨h9, -⟩ | ⟨-, hL', hS'⟩
    · omega
    · exact kk s m args below meth c A ρ' tys' H' locs' ls' st' k n C hR' hft hL' hS' (by omega) (by omega) hr hnn hV
  obtain ⟨t, a1, b1⟩ := K _ hh0 (Stand.of_body B)
  exact ⟨t, hst t a1, b1⟩
/-- at the call -/
theorem nx_next (hE : NXE l e) {d x idx x' y z np pcs : Nat} {fk : List Nat} {mt mu : MT} (hI : IOK WB AD SR FW TB mt.1 pcs (.invokevirtual idx, x', y, z, fk)) (hmu : TB[x']? = some mu) (hx0 : x' ≠ 0) (hl1 : Jvm.Cond.methodLink (mO mt.1) idx (mY mu.1) ∈ WB) (hnp : np = mN mu.1)
    {rm rm' : Room} {ah' AH' : List AC} {nt' u v r : Nat} {ast avs' : List AV} {als : Als} {sel st9 : List Nat}
    (h1 : np ≤ ast.length) (h2 : acats (ast.drop np) ≤ 8) (h4 : isObj ah' y (ast.take np).reverse = true)
    (w1 : wS (sfl sel) (sfl st9) ah' sel AH' = true) (w2 : risF 0 sel = true) (w3 : st9.all (fun t => Nat.blt t nt') = true) (w4 : lS (sfl sel) (ast.take np).reverse avs' = true)
    (f1 : rm'.frames + 1 ≤ rm.frames) (f2 : 8 + (mL mu.1 + 11) + rm'.locals ≤ rm.locals) (f3 : u + rm'.cells ≤ rm.cells) (f4 : v + rm'.slots ≤ rm.slots)
    (hcal : NXP p l e g D x' rm' AH' st9.length avs' r)
    {s : State} {m : MethodId} {args : Array Value} {below : List Frame} {meth : Method} {c : Code} {A : Nat → Prop} {ρ : List Nat} {tys : TY} {H : Heap} {locs : List Loc} {ls : Array Slot} {st : List Value} {cells slots : Nat}
    (C : Ctx WB AD SR FW g sl mt.1 d x p l rm s m args meth c A) (hR : HR g D A s ρ tys ah' H locs) (hnt : tys.length = nt') (hL : LR g ρ (mL mt.1) als ls) (hS : F2 (vrel g ρ) ast st) (hcl : cells ≤ u) (hsl : slots ≤ v) (hr : below.length + (r + 1) = (e.platform.limitsFor 0).1) (hnn : nonote below = true) (hV : NXV s) :
    W p l e rm s m args below meth c H locs cells slots (Dead p.tables e below) (F0 m pcs ls st) := by
  intro T hTH X
  obtain ⟨hx, hb, hml, hts, hown, hin, hA, hAmb, hRR, hlt, hlk, htab, hret, hscr⟩ := id C
  have hM := MO_ok x' mu hx0 hmu
  obtain ⟨hl0, hl2, hl4, ⟨qc, hqc1, hqc2⟩, hl3, hnp1⟩ := virt_words hI hmu hx0
  obtain ⟨t1, t2⟩ := F2_take hS np
  have r1 := F2_rev t1
  have r3 : np ≤ st.length := by rw [← F2_len hS]; exact h1
  obtain ⟨b, Bs, hBs, cell, c1, c2, c3⟩ := recv_ok h4 hR r1 hqc1
  rw [hqc2] at c3
  have hlenB : Bs.length = mN mu.1 - 1 := by
    have := take_len r3
    rw [hBs, hnp] at this
    rw [List.length_cons] at this
    omega
  have hSS := HR_S hR
  have hcw : cwd mu.1 ∈ WB := hM.2.1
  have hws := pay_in hts (gi WB_good (ws := cwd mu.1 :: WB) (fun w hw => by
    rcases List.mem_cons.mp hw with rfl | hw
    · exact hcw
    · exact hw))
  have hsub : List.all st9 (fun t => Nat.blt t tys.length) = true := by rw [hnt]; exact w3
  obtain ⟨ρ', tys', hw', hK', hlt', hsel⟩ := HRw_sel (HR_w hR) hR.1 w1 w2 hsub
  have hav' : F2 (vrel g ρ') avs' (.ref b :: Bs) := by
    rw [← hBs]
    exact lS_ok hsel w4 r1
  refine nx_callee (g := F0 m pcs ls st) X hx (ws := cwd mu.1 :: WB) (rm := rm') hown (hts _ hl1) (hts _ hl2) (hts _ hl4) (hts _ hcw) (hts _ hM.2.2.1) ⟨hM.2.2.2.2.1.1, hM.2.2.2.2.1.2⟩ hws f1 f2 (by omega) (by omega) (by rw [hTH]; exact c1) c2 c3 rfl ((LR_size hL).trans hml.symm) (argsL := Bs) (rest := st.drop np) (fun sig hsig => ?_) (stk_rcv hBs) (by have := F2_cats t2; show 2 * 0 + _ ≤ 8; omega) (by show decode c.code pcs = _; rw [hb]; exact hI.1) ?_
  · rw [hsig] at hl3
    exact hlenB.trans (Option.some.inj hl3).symm
  · intro U mk hUf happ hUH hUW
    rw [hTH] at hUH
    refine hcal mu hmu U mk _ _ A ρ' tys' (.ref b :: Bs) hUf (by rw [List.length_cons]; omega) ?_ happ hlt' hav' (by rw [hUH]; exact hw') (fun q hq => hA q (Nat.le_trans hSS.1 (by rw [← hUH]; exact hq))) ⟨rfl, rfl, hAmb.warm AD_ok FW_ok hSS hUH hUW (fun _ h => h), hK'.moved hUW.alike⟩ (NXV.warm hUW hV)
    unfold nonote at hnn ⊢
    exact hnn
/-- at the call for which there is no room -/
theorem nx_last (hE : NXE l e) {d x idx x' y z np pcs : Nat} {fk : List Nat} {mt mu : MT} (hI : IOK WB AD SR FW TB mt.1 pcs (.invokevirtual idx, x', y, z, fk)) (hmu : TB[x']? = some mu) (hx0 : x' ≠ 0) (hl1 : Jvm.Cond.methodLink (mO mt.1) idx (mY mu.1) ∈ WB) (hnp : np = mN mu.1)
    {rm : Room} {ah' : List AC} {nt' u v : Nat} {ast : List AV} {als : Als}
    (h1 : np ≤ ast.length) (h4 : isObj ah' y (ast.take np).reverse = true) (f3 : u ≤ rm.cells)
    {s : State} {m : MethodId} {args : Array Value} {below : List Frame} {meth : Method} {c : Code} {A : Nat → Prop} {ρ : List Nat} {tys : TY} {H : Heap} {locs : List Loc} {ls : Array Slot} {st : List Value} {cells slots : Nat}
    (C : Ctx WB AD SR FW g sl mt.1 d x p l rm s m args meth c A) (hR : HR g D A s ρ tys ah' H locs) (hnt : tys.length = nt') (hL : LR g ρ (mL mt.1) als ls) (hS : F2 (vrel g ρ) ast st) (hcl : cells ≤ u) (hsl : slots ≤ v) (hr : below.length + 1 = (e.platform.limitsFor 0).1) (hnn : nonote below = true) (hV : NXV s) :
    W p l e rm s m args below meth c H locs cells slots (Dead p.tables e below) (F0 m pcs ls st) := by
  intro T hTH X
  obtain ⟨hx, hb, hml, hts, hown, hin, hA, hAmb, hRR, hlt, hlk, htab, hret, hscr⟩ := id C
  have hM := MO_ok x' mu hx0 hmu
  obtain ⟨hl0, hl2, hl4, ⟨qc, hqc1, hqc2⟩, hl3, hnp1⟩ := virt_words hI hmu hx0
  obtain ⟨t1, t2⟩ := F2_take hS np
  have r1 := F2_rev t1
  have r3 : np ≤ st.length := by rw [← F2_len hS]; exact h1
  obtain ⟨b, Bs, hBs, cell, c1, c2, c3⟩ := recv_ok h4 hR r1 hqc1
  rw [hqc2] at c3
  have hlenB : Bs.length = mN mu.1 - 1 := by
    have := take_len r3
    rw [hBs, hnp] at this
    rw [List.length_cons] at this
    omega
  have hcw : cwd mu.1 ∈ WB := hM.2.1
  obtain ⟨-, -, -, -, hc1, hc2⟩ := hE
  refine nx_over (g := F0 m pcs ls st) X hx hown (hts _ hl1) (hts _ hl2) (hts _ hl4) (hts _ hcw) (hts _ hM.2.2.1) ⟨hM.2.2.2.2.1.1, hM.2.2.2.2.1.2⟩ (by rw [hTH]; exact c1) c2 c3 rfl (argsL := Bs) (rest := st.drop np) (fun sig hsig => ?_) (stk_rcv hBs) (by show decode c.code pcs = _; rw [hb]; exact hI.1) hV hc1 hc2 (by omega) ?_
  · rw [hsig] at hl3
    exact hlenB.trans (Option.some.inj hl3).symm
  · exact nonote_in hnn
end PIECE
