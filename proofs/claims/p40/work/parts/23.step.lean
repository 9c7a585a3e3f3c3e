/-! calls as instructions, and each row of a table -/
theorem aCall_in {vk len x y np : Nat} {hh : List (Nat × Nat × Nat × Nat × Nat)} {ev : EV} {rc : RC} {dep mi pc : Nat} {als : Als} {ast : List AV} {ah : List AC} {nt : Nat} {f : Fin9} (h : aCall vk len x y np hh ev rc dep mi pc als ast ah nt = some f) :
    ∃ (d : Nat) (f1 : Fin9), dep = d + 1 ∧ np ≤ ast.length ∧ acats (ast.drop np) ≤ 8 ∧ acats (ast.take np) = np ∧ rcv vk ah y (ast.take np).reverse = true ∧ rc d x 0 (aargs 0 (ast.take np).reverse) [] ah nt = some f1 ∧ aft rc vk hh len (d + 1) mi pc als (ast.drop np) f1 = some f := by
  unfold aCall at h
  split at h
  · cases h
  · rename_i d
    split at h
    · cases h
    · rename_i h1
      have h1 := and_cases h1
      have h2 := and_cases h1.2
      split at h
      · cases h
      · rename_i h3
        split at h
        · cases h
        · rename_i f1 h4
          rw [fA_eq] at h4
          rw [fL_eq] at h
          exact ⟨d, f1, rfl, Nat.le_of_ble_eq_true h1.1, Nat.le_of_ble_eq_true h2.1, Nat.eq_of_beq_eq_true h2.2, h3, h4, h⟩
theorem aft_in {rc : RC} {vk len d mi pc : Nat} {hh : List (Nat × Nat × Nat × Nat × Nat)} {als : Als} {rest : List AV} {f1 f : Fin9} (h : aft rc vk hh len d mi pc als rest f1 = some f) :
    (f1.1 < 3 ∧ ∃ f2, rc d mi (pc + len) als (rst f1 rest) (fh f1) (ft f1) = some f2 ∧ f = bump (fu f1) (fv f1) f2) ∨
    (∃ (ec hp : Nat) (f2 : Fin9), f1.1 = ec + 3 ∧ (vk = 1 ∧ ec < 3 ∧ 9 ≤ d) ∧ hfind hh pc ec = some hp ∧ rc d mi hp als [.inr (.inr (.inr (.inr 0)))] (fh f1) (ft f1) = some f2 ∧ f = bump (fu f1) (fv f1) f2) := by
  obtain ⟨rk, pcf, a, ahf, ntf, u, v⟩ := f1
  match rk, h with
  | 0, h =>
    obtain ⟨f2, h1, h2⟩ := addu_in (show addu u v (fN (pc + len) (fun pc' => fN ntf (fun nt' => fL (a :: rest) (fun st => rc d mi pc' als st ahf nt')))) = some f from h)
    rw [fN_eq, fN_eq, fL_eq] at h1
    exact Or.inl ⟨by show (0 : Nat) < 3; decide, f2, h1, h2⟩
  | 1, h =>
    obtain ⟨f2, h1, h2⟩ := addu_in (show addu u v (fN (pc + len) (fun pc' => fN ntf (fun nt' => rc d mi pc' als rest ahf nt'))) = some f from h)
    rw [fN_eq, fN_eq] at h1
    exact Or.inl ⟨by show (1 : Nat) < 3; decide, f2, h1, h2⟩
  | 2, h =>
    obtain ⟨f2, h1, h2⟩ := addu_in (show addu u v (fN (pc + len) (fun pc' => fN ntf (fun nt' => fL (a :: rest) (fun st => rc d mi pc' als st ahf nt')))) = some f from h)
    rw [fN_eq, fN_eq, fL_eq] at h1
    exact Or.inl ⟨by show (2 : Nat) < 3; decide, f2, h1, h2⟩
  | ec + 3, h =>
    have h : (match Nat.beq vk 1 && (Nat.blt ec 3 && Nat.ble 9 d) with
      | true => match hfind hh pc ec with
        | some hp => addu u v (fN ntf (fun nt' => rc d mi hp als [.inr (.inr (.inr (.inr 0)))] ahf nt'))
        | none => none
      | false => none) = some f := h
    split at h
    · rename_i hv
      split at h
      · rename_i hp hhp
        obtain ⟨f2, h1, h2⟩ := addu_in h
        rw [fN_eq] at h1
        exact Or.inr ⟨ec, hp, f2, rfl, ⟨Nat.eq_of_beq_eq_true (and_cases hv).1, Nat.le_of_ble_eq_true (and_cases (and_cases hv).2).1, Nat.le_of_ble_eq_true (and_cases (and_cases hv).2).2⟩, hhp, h1, h2⟩
      · cases h
    · cases h
theorem hfind_in {hh : List (Nat × Nat × Nat × Nat × Nat)} {pc ec hp : Nat} (h : hfind hh pc ec = some hp) : ∃ (pre : List (Nat × Nat × Nat × Nat × Nat)) (q : Nat × Nat × Nat × Nat × Nat) (suf : List (Nat × Nat × Nat × Nat × Nat)), hh = pre ++ q :: suf ∧ q.1 ≤ pc ∧ pc < q.2.1 ∧ q.2.2.2.2 = ec ∧ q.2.2.1 = hp ∧ ∀ z ∈ pre, ¬ (z.1 ≤ pc ∧ pc < z.2.1) ∨ (z.2.2.2.2 ≠ ec ∧ z.2.2.2.2 < 3) := by
  induction hh with
  | nil => cases h
  | cons q l ih =>
    unfold hfind at h
    split at h
    · rename_i h1
      have h1 := and_cases h1
      split at h
      · rename_i h2
        exact ⟨[], q, l, rfl, Nat.le_of_ble_eq_true h1.1, Nat.le_of_ble_eq_true h1.2, Nat.eq_of_beq_eq_true h2, sj h, fun z hz => by cases hz⟩
      · rename_i h2
        split at h
        · rename_i h3
          obtain ⟨pre, q', suf, e, r1, r2, r3, r4, r5⟩ := ih h
          refine ⟨q :: pre, q', suf, by rw [e]; rfl, r1, r2, r3, r4, fun z hz => ?_⟩
          rcases List.mem_cons.mp hz with rfl | hz
          · exact Or.inr ⟨(fun z => by rw [z, Nat.beq_refl] at h2; cases h2), Nat.le_of_ble_eq_true h3⟩
          · exact r5 z hz
        · cases h
    · rename_i h1
      obtain ⟨pre, q', suf, e, r1, r2, r3, r4, r5⟩ := ih h
      refine ⟨q :: pre, q', suf, by rw [e]; rfl, r1, r2, r3, r4, fun z hz => ?_⟩
      rcases List.mem_cons.mp hz with rfl | hz
      · refine Or.inl (fun y => ?_)
        have e1 : Nat.ble z.1 pc = true := Nat.ble_eq_true_of_le y.1
        have e2 : Nat.blt pc z.2.1 = true := Nat.ble_eq_true_of_le y.2
        rw [e1, e2] at h1
        cases h1
      · exact r5 z hz
theorem covers_of {q : Nat × Nat × Nat × Nat} {pc : Nat} : covers ⟨q.1, q.2.1, q.2.2.1, q.2.2.2⟩ pc = true ↔ (q.1 ≤ pc ∧ pc < q.2.1) := by
  simp [covers]
section STEP
variable {TB : List MT} {WB AD : List Jvm.Cond} {SR : List (String × Nat × String)} {FW : FWT} {STP : Als × List AV} {l : Launch} {g : GV} {D : va_G} {sl : Nat} {mt : MT} {dep mi pc : Nat} {als : Als} {ast : List AV} {ah : List AC} {nt : Nat} {f : Fin9} {ev : EV} {rc : RC}
/-- behind a call that came back -/
theorem go_ret (IH : RSnd TB WB AD SR FW STP l g D sl rc) (hmt : TB[mi]? = some mt) {f1 f2 : Fin9} {pc' : Nat} {rest : List AV} (h2 : rc dep mi pc' als (rst f1 rest) (fh f1) (ft f1) = some f2) (hf : f = bump (fu f1) (fv f1) f2)
    {p : Program} {e : Env} {R : Room} {s : State} {m : MethodId} {args : Array Value} {below : List Frame} {meth : Method} {c : Code} {cells slots : Nat} {Q : State → Prop} {A : Nat → Prop} {ρ : List Nat} {ls : Array Slot} {vs : List Value}
    (C : Ctx WB AD SR FW g sl mt.1 dep mi p l R s m args meth c A) (hL : LR g ρ (mL mt.1) als ls) (hS : F2 (vrel g ρ) rest vs) (hu : cells + fu f ≤ R.cells) (hv : slots + fv f ≤ R.slots)
    (K : Kont WB AD SR STP g D mt.1 f p l e R s m args below meth c cells slots Q A ρ) :
    ∀ (v : Option Value) (ρ' : List Nat) (tys' : TY) (H1 : Heap) (locs1 : List Loc), vres g ρ' f1 v → Ext ρ ρ' → tys'.length = ft f1 → HR g D A s ρ' tys' (fh f1) H1 locs1 → W p l e R s m args below meth c H1 locs1 (cells + fu f1) (slots + fv f1) Q (F0 m pc' ls (v.toList ++ vs)) :=
  fun _ _ _ _ _ hvr hE hft hR' => go_bump IH hmt h2 hf C hR' hft (LR_more hE hL) (vres_F2 hvr (F2_more hE hS)) hE hu hv K
theorem gi (hWB : ∀ w ∈ WB, goodWord w = true) {ws : List Jvm.Cond} (h : ∀ w ∈ ws, w ∈ WB) : GoodIn WB ws := fun w hw => ⟨h w hw, good_of_word (hWB w (h w hw))⟩
theorem cwd_nil {md : MD} (h : mH md = []) : cwd md = Cond.code (mY md) (mC md) (mL md) (mR md) := by unfold cwd; rw [h]; rfl
theorem cwd_cons {md : MD} (h : mH md ≠ []) : cwd md = Cond.codeWith (mY md) (mC md) (mL md) (mR md) ((mH md).map d4) := by
  unfold cwd
  cases e : mH md with
  | nil => exact absurd e h
  | cons q l => rfl
theorem take_len {n : Nat} {st : List Value} (h : n ≤ st.length) : (st.take n).reverse.length = n := by rw [List.length_reverse, List.length_take]; omega
theorem stk_eq (n : Nat) (st : List Value) : st = (st.take n).reverse.reverse ++ st.drop n := by rw [List.reverse_reverse, List.take_append_drop]
theorem stk_rcv {n : Nat} {st As : List Value} {b : Nat} (h : (st.take n).reverse = .ref b :: As) : st = As.reverse ++ .ref b :: st.drop n := by
  have h2 := congrArg List.reverse h
  rw [List.reverse_reverse, List.reverse_cons] at h2
  have h3 := (List.take_append_drop n st).symm
  rw [h2] at h3
  rw [List.append_assoc] at h3
  exact h3
theorem acats_app (a b : List AV) : acats (a ++ b) = acats a + acats b := by
  induction a with
  | nil => simp [acats]
  | cons x l ih => show acat x + acats (l ++ b) = acat x + acats l + acats b; omega
theorem acats_rev (a : List AV) : acats a.reverse = acats a := by
  induction a with
  | nil => rfl
  | cons x l ih =>
    rw [List.reverse_cons, acats_app, ih]
    show acats l + (acat x + 0) = acat x + acats l
    omega

set_option maxRecDepth 100000 in
theorem call_pre (hWB : ∀ w ∈ WB, goodWord w = true) {d np : Nat} {hmd : MD} (hM : MOK WB hmd) (hnp : np = mN hmd) {p : Program} {R : Room} {s : State} {m : MethodId} {args : Array Value} {meth : Method} {c : Code} {A : Nat → Prop} {ρ : List Nat} {st : List Value}
    (C : Ctx WB AD SR FW g sl mt.1 (d + 1) mi p l R s m args meth c A) (hS : F2 (vrel g ρ) ast st) (h1 : np ≤ ast.length) (h2 : acats (ast.drop np) ≤ 8) (h3 : acats (ast.take np) = np) :
    F2 (vrel g ρ) (ast.take np).reverse (st.take np).reverse ∧ F2 (vrel g ρ) (ast.drop np) (st.drop np) ∧ np ≤ st.length ∧ acats (ast.take np).reverse ≤ mL hmd ∧ 2 * 0 + ((st.drop np).map fun v => v.category).sum ≤ 8 ∧ (FRM d + 1 ≤ R.frames ∧ 8 + (mL hmd + 11) + LOC d ≤ R.locals) := by
  obtain ⟨t1, t2⟩ := F2_take hS np
  obtain ⟨m1, m2, m3, m4, m5, m6, m7, m8, m9⟩ := hM
  obtain ⟨hf1, hf2⟩ := C.2.2.2.2.2.2.2.2.1
  unfold FRM at hf1
  unfold LOC at hf2
  refine ⟨F2_rev t1, t2, by rw [← F2_len hS]; exact h1, by rw [acats_rev, h3, hnp]; exact m1, by rw [F2_cats t2]; omega, ?_, ?_⟩
  · unfold FRM; omega
  · exact (show ∀ a b z : Nat, z ≤ 60 → 100 * (a + 1) + 300 ≤ b → 8 + (z + 11) + (100 * a + 300) ≤ b from fun a b z q1 q2 => by omega) d _ _ m8 hf2
theorem s_stat (hWB : ∀ w ∈ WB, goodWord w = true) (hAD : ADok AD) (hFW : FWok FW) (IH : RSnd TB WB AD SR FW STP l g D sl rc) (hmt : TB[mi]? = some mt) {idx x y np : Nat} (hx0 : x ≠ 0) (hd : decode (mC mt.1) pc = .ok (.invokestatic idx, 3)) {mu : MT} (hmu : TB[x]? = some mu) (hM : MOK WB mu.1) (hnp : np = mN mu.1) (hl0 : Jvm.Cond.methodLink (mO mt.1) idx (mY mu.1) ∈ WB ∨ (mH mu.1 = [] ∧ mH mt.1 = [] ∧ ∃ host, (mO mt.1, idx, mY mu.1, host) ∈ FW.2)) (hl2 : Jvm.Cond.static (mY mu.1) ∈ WB) (hl3 : (parseMethodDescriptor (mY mu.1).desc).map (fun d => d.parameters.length) = some (mN mu.1)) (h : aCall 0 3 x y np (mH mt.1) ev rc dep mi pc als ast ah nt = some f) : Snd WB AD SR FW STP l g D sl mt.1 dep mi pc als ast ah nt f := by
  obtain ⟨d, f1, rfl, h1, h2, h3, h4, h5, h6⟩ := aCall_in h
  intro p e R s m args below meth c H locs cells slots Q A ρ tys ls st C hR hnt hL hS hu hv k
  obtain ⟨hx, hb, hml, hts, hown, hin, hA, hAmb, hRR, hlt, hlk, htab, hret, hscr⟩ := id C
  obtain ⟨r1, r2, r3, r4, r5, r6⟩ := call_pre hWB hM hnp C hS h1 h2 h3
  have hSS := HR_S hR
  have hA' : ∀ q, H.size ≤ q → A q := fun q hq => hA q (Nat.le_trans hSS.1 hq)
  rcases aft_in h6 with ⟨hf1, f2, h7, h8⟩ | ⟨ec, hp, f2, -, ⟨h8, -⟩, -⟩
  · have e1 : fu f = fu f1 + fu f2 := by rw [h8]; rfl
    have e2 : fv f = fv f1 + fv f2 := by rw [h8]; rfl
    have hMet := met_ret IH hx0 hmu hM h5 hf1 hnt r1 r4 hlt hA' (HR_w hR)
    have hpre : PreS s H (CP SR AD FW g D A tys (st.take np).reverse H) (st.take np).reverse := ⟨blind_CP hAD hFW, pre_CP hAD hFW hAmb hR⟩
    have hgo := go_ret (f1 := f1) IH hmt h7 h8 C hL r2 hu hv k
    have hcw : cwd mu.1 ∈ WB := hM.2.1
    rcases hl0 with hl1 | ⟨hh, hhc, host, hho⟩
    rotate_left
    · exact call_go (f := f1) (va_runSN (As := (st.take np).reverse) (rest := st.drop np) (cc := mC mt.1) (own := mO mt.1) ⟨hx, hb, hml, hown, hts⟩ hMet
        ⟨va_cnB (mN mu.1) hts (gi hWB (fun w hw => by
          rcases List.mem_cons.mp hw with rfl | hw
          · exact hcw
          · exact hw)) (by rw [cwd_nil hh]) rfl rfl (hAmb.2.2.2.2.1.2 _ hho) (hts _ hM.2.2.1) ⟨hM.2.2.2.2.1.1, hM.2.2.2.2.1.2, hl3⟩ r6, hts _ hl2, trivial⟩ hpre rfl ((take_len r3).trans hnp) ((LR_size hL)) (stk_eq np st) r5 hd ⟨by omega, by omega⟩) hSS hgo
    by_cases hh : mH mu.1 = []
    · refine call_go (f := f1) (va_runS (As := (st.take np).reverse) (rest := st.drop np) (cc := mC mt.1) (own := mO mt.1) ⟨hx, hb, hml, hown, hts⟩ hMet
        ⟨callB_of (mN mu.1) hts (gi hWB (fun w hw => by
          rcases List.mem_cons.mp hw with rfl | hw
          · exact hcw
          · exact hw)) (by rw [cwd_nil hh]) rfl rfl (hts _ hM.2.2.1) (hts _ hl1) ⟨hM.2.2.2.2.1.1, hM.2.2.2.2.1.2, hl3⟩ r6, hts _ hl2⟩ hpre rfl ((take_len r3).trans hnp) ((LR_size hL)) (stk_eq np st) r5 hd ⟨by omega, by omega⟩) hSS hgo
    · refine call_go (f := f1) (vx_runSW (As := (st.take np).reverse) (rest := st.drop np) (cc := mC mt.1) (own := mO mt.1) (hh := (mH mu.1).map d4) ⟨hx, hb, hml, hown, hts⟩ hMet
        (vx_cwSW (mN mu.1) hts (gi hWB (fun w hw => by
          rcases List.mem_append.mp hw with hw | hw
          · rcases List.mem_cons.mp hw with rfl | hw
            · exact hl1
            · rcases List.mem_cons.mp hw with rfl | hw
              · exact hl2
              · rcases List.mem_cons.mp hw with rfl | hw
                · exact hM.2.2.1
                · cases hw
          · rcases List.mem_cons.mp hw with rfl | hw
            · exact hcw
            · exact hw)) (by rw [cwd_cons hh]) rfl rfl ⟨hM.2.2.2.2.1.1, hM.2.2.2.2.1.2, hl3⟩ r6) hpre rfl ((take_len r3).trans hnp) ((LR_size hL)) (stk_eq np st) r5 hd ⟨by omega, by omega⟩) hSS hgo
  · cases h8
theorem rcv_obj {vk y : Nat} {args : List AV} (h0 : vk ≠ 0) (h2 : vk ≠ 2) (h : rcv vk ah y args = true) : isObj ah y args = true := by
  match vk, h0, h2, h with
  | 1, _, _, h => exact h
  | n + 3, _, _, h => exact h
theorem isObj_in {y : Nat} {args : List AV} (h : isObj ah y args = true) : ∃ (i : Nat) (o : Nat × List AV) (r : List AV), args = .inr (.inr (.inl i)) :: r ∧ ah[i]? = some (.inl o) ∧ o.1 = y := by
  unfold isObj at h
  split at h
  · rename_i i r
    split at h
    · rename_i o ho
      exact ⟨i, o, r, rfl, ho, Nat.eq_of_beq_eq_true h⟩
    · cases h
  · cases h
/-- a receiver of a known class -/
theorem recv_ok {y : Nat} {args : List AV} (h : isObj ah y args = true) {s : State} {A : Nat → Prop} {ρ : List Nat} {tys : TY} {H : Heap} {locs : List Loc} {As : List Value} (hR : HR g D A s ρ tys ah H locs) (hS : F2 (vrel g ρ) args As) {q : vw_C} (hq : vwCl[y]? = some q) : ∃ (b : Nat) (Bs : List Value), As = .ref b :: Bs ∧ ∃ cell : Cell, H[b]? = some cell ∧ cell.vm.isStatics = false ∧ s.vm.findClass q.1 = some cell.cls := by
  obtain ⟨i, o, r, rfl, ho, rfl⟩ := isObj_in h
  obtain ⟨v, vs, rfl, hr1, hS1⟩ := F2_cons hS
  obtain ⟨b, hb, rfl⟩ := hr1
  obtain ⟨hK, ws, e1, hP, hDD, hSS, hW⟩ := hR
  obtain ⟨en, hen, us, hus, rfl⟩ := ws_at e1 hW hb ho
  exact ⟨b, vs, rfl, va_recv hK hP hq hen⟩
theorem s_virt (hWB : ∀ w ∈ WB, goodWord w = true) (hAD : ADok AD) (hFW : FWok FW) (hAC : ∀ i, i < 3 → Jvm.Cond.castable (ename i) (ename i) ∈ AD) (hMt : HOK WB mt.1) (IH : RSnd TB WB AD SR FW STP l g D sl rc) (hmt : TB[mi]? = some mt) {idx x y np : Nat} (hx0 : x ≠ 0) (hd : decode (mC mt.1) pc = .ok (.invokevirtual idx, 3)) {mu : MT} (hmu : TB[x]? = some mu) (hM : MOK WB mu.1) (hnp : np = mN mu.1) (hnp1 : 0 < mN mu.1) (hl0 : Jvm.Cond.methodLink (mO mt.1) idx (mY mu.1) ∈ WB ∨ (mH mu.1 = [] ∧ mH mt.1 = [] ∧ ∃ host, (mO mt.1, idx, mY mu.1, host) ∈ FW.2)) (hl2 : Jvm.Cond.instanceMethod (mY mu.1) ∈ WB) (hl4 : Jvm.Cond.selects (mY mu.1).cls (mY mu.1) (mY mu.1) ∈ WB) (hq : ∃ q, vwCl[y]? = some q ∧ q.1 = (mY mu.1).cls) (hl3 : (parseMethodDescriptor (mY mu.1).desc).map (fun d => d.parameters.length) = some (mN mu.1 - 1)) (h : aCall 1 3 x y np (mH mt.1) ev rc dep mi pc als ast ah nt = some f) : Snd WB AD SR FW STP l g D sl mt.1 dep mi pc als ast ah nt f := by
  obtain ⟨d, f1, rfl, h1, h2, h3, h4, h5, h6⟩ := aCall_in h
  intro p e R s m args below meth c H locs cells slots Q A ρ tys ls st C hR hnt hL hS hu hv k
  obtain ⟨hx, hb, hml, hts, hown, hin, hA, hAmb, hRR, hlt, hlk, htab, hret, hscr⟩ := id C
  obtain ⟨r1, r2, r3, r4, r5, r6⟩ := call_pre hWB hM hnp C hS h1 h2 h3
  have hSS := HR_S hR
  have hA' : ∀ q, H.size ≤ q → A q := fun q hq => hA q (Nat.le_trans hSS.1 hq)
  obtain ⟨q, hq1, hq2⟩ := hq
  obtain ⟨b, Bs, hBs, cell, c1, c2, c3⟩ := recv_ok (rcv_obj (by decide) (by decide) h4) hR r1 hq1
  rw [hq2] at c3
  have hlen : Bs.length = mN mu.1 - 1 := by
    have := take_len r3
    rw [hBs, hnp] at this
    rw [List.length_cons] at this
    omega
  have hcw : cwd mu.1 ∈ WB := hM.2.1
  have hpr := pre_CP (vs := (st.take np).reverse) hAD hFW hAmb hR
  rw [hBs] at hpr
  have hpre : PreV s H (mY mu.1).cls b (CP SR AD FW g D A tys (.ref b :: Bs) H) Bs := ⟨blind_CP hAD hFW, ⟨cell, c1, c2, c3⟩, hpr⟩
  rcases hl0 with hl1 | ⟨hh, hhc, host, hho⟩
  rotate_left
  · rcases aft_in h6 with ⟨hf1, f2, h7, h8⟩ | ⟨ec, hp, f2, hf1, ⟨hvk, hec, h9d⟩, h9, h7, h8⟩
    · have e1 : fu f = fu f1 + fu f2 := by rw [h8]; rfl
      have e2 : fv f = fv f1 + fv f2 := by rw [h8]; rfl
      have hMet := met_ret IH hx0 hmu hM h5 hf1 hnt r1 r4 hlt hA' (HR_w hR)
      rw [hBs] at hMet
      exact call_go (f := f1) (va_runVN (As := Bs) (rest := st.drop np) (cc := mC mt.1) (own := mO mt.1) (C := (mY mu.1).cls) ⟨hx, hb, hml, hown, hts⟩ hMet ⟨va_cnB (mN mu.1 - 1) hts (gi hWB (fun w hw => by
          rcases List.mem_cons.mp hw with rfl | hw
          · exact hcw
          · exact hw)) (by rw [cwd_nil hh]) rfl rfl (hAmb.2.2.2.2.1.2 _ hho) (hts _ hM.2.2.1) ⟨hM.2.2.2.2.1.1, hM.2.2.2.2.1.2, hl3⟩ r6, hts _ hl2, hts _ hl4⟩ hpre rfl hlen (LR_size hL) (stk_rcv hBs) r5 hd ⟨by omega, by omega⟩) hSS (go_ret (f1 := f1) IH hmt h7 h8 C hL r2 hu hv k)
    · rw [hhc] at h9
      cases h9
  have hgi : GoodIn WB (wsV (mO mt.1) idx (mY mu.1).cls (mY mu.1) (cwd mu.1 :: WB)) := gi hWB (fun w hw => by
    rcases List.mem_append.mp hw with hw | hw
    · rcases List.mem_cons.mp hw with rfl | hw
      · exact hl1
      · rcases List.mem_cons.mp hw with rfl | hw
        · exact hl2
        · rcases List.mem_cons.mp hw with rfl | hw
          · exact hl4
          · rcases List.mem_cons.mp hw with rfl | hw
            · exact hM.2.2.1
            · cases hw
    · rcases List.mem_cons.mp hw with rfl | hw
      · exact hcw
      · exact hw)
  have hrr : ∀ (Qc : Array Value → State → Outcome → State → Prop), Met l (mY mu.1) (cwd mu.1 :: WB) ({ frames := FRM d, cells := fu f1, slots := fv f1, locals := LOC d } : Room) (CP SR AD FW g D A tys (.ref b :: Bs) H) Qc (fu f1) (fv f1) A → cells + fu f1 ≤ R.cells → slots + fv f1 ≤ R.slots → va_Run p l e R s m args below meth c H locs cells slots (fu f1) (fv f1) (F0 m pc ls st) (st.drop np) (Qc (Value.ref b :: Bs).toArray) A := by
    intro Qc hMet q1 q2
    by_cases hh : mH mu.1 = []
    · exact va_runV (As := Bs) (rest := st.drop np) (cc := mC mt.1) (own := mO mt.1) ⟨hx, hb, hml, hown, hts⟩ hMet (cwV (own := mO mt.1) (index := idx) (C := (mY mu.1).cls) (R := R) (mN mu.1 - 1) hts hgi (by rw [cwd_nil hh]) rfl rfl ⟨rfl, hM.2.2.2.2.1.1, hM.2.2.2.2.1.2, hl3⟩ r6) hpre rfl hlen (LR_size hL) (stk_rcv hBs) r5 hd ⟨q1, q2⟩
    · exact vx_runVW (As := Bs) (rest := st.drop np) (cc := mC mt.1) (own := mO mt.1) (hh := (mH mu.1).map d4) ⟨hx, hb, hml, hown, hts⟩ hMet (vx_cwVW (own := mO mt.1) (index := idx) (C := (mY mu.1).cls) (R := R) (mN mu.1 - 1) hts hgi (by rw [cwd_cons hh]) rfl rfl ⟨rfl, hM.2.2.2.2.1.1, hM.2.2.2.2.1.2, hl3⟩ r6) hpre rfl hlen (LR_size hL) (stk_rcv hBs) r5 hd ⟨q1, q2⟩
  have hrx : ∀ (XC : String → State → State → Prop), vx_Met l (mY mu.1) (cwd mu.1 :: WB) ({ frames := FRM d, cells := fu f1, slots := fv f1, locals := LOC d } : Room) (CP SR AD FW g D A tys (.ref b :: Bs) H) CN XC (fu f1) (fv f1) A → cells + fu f1 ≤ R.cells → slots + fv f1 ≤ R.slots → vx_Run p l e R s m args below meth c H locs cells slots (fu f1) (fv f1) (F0 m pc ls st) (st.drop np) (CN (Value.ref b :: Bs).toArray) XC A := by
    intro XC hMet q1 q2
    by_cases hh : mH mu.1 = []
    · exact vx_runV (As := Bs) (rest := st.drop np) (cc := mC mt.1) (own := mO mt.1) ⟨hx, hb, hml, hown, hts⟩ hMet (cwV (own := mO mt.1) (index := idx) (C := (mY mu.1).cls) (R := R) (mN mu.1 - 1) hts hgi (by rw [cwd_nil hh]) rfl rfl ⟨rfl, hM.2.2.2.2.1.1, hM.2.2.2.2.1.2, hl3⟩ r6) hpre rfl hlen (LR_size hL) (stk_rcv hBs) r5 hd ⟨q1, q2⟩
    · exact vx_runVX (As := Bs) (rest := st.drop np) (cc := mC mt.1) (own := mO mt.1) (hh := (mH mu.1).map d4) ⟨hx, hb, hml, hown, hts⟩ hMet (vx_cwVW (own := mO mt.1) (index := idx) (C := (mY mu.1).cls) (R := R) (mN mu.1 - 1) hts hgi (by rw [cwd_cons hh]) rfl rfl ⟨rfl, hM.2.2.2.2.1.1, hM.2.2.2.2.1.2, hl3⟩ r6) hpre rfl hlen (LR_size hL) (stk_rcv hBs) r5 hd ⟨q1, q2⟩
  rcases aft_in h6 with ⟨hf1, f2, h7, h8⟩ | ⟨ec, hp, f2, hf1, ⟨-, hec, h9d⟩, h9, h7, h8⟩
  · have e1 : fu f = fu f1 + fu f2 := by rw [h8]; rfl
    have e2 : fv f = fv f1 + fv f2 := by rw [h8]; rfl
    have hMet := met_ret IH hx0 hmu hM h5 hf1 hnt r1 r4 hlt hA' (HR_w hR)
    rw [hBs] at hMet
    exact call_go (f := f1) (hrr _ hMet (by omega) (by omega)) hSS (go_ret (f1 := f1) IH hmt h7 h8 C hL r2 hu hv k)
  · have e1 : fu f = fu f1 + fu f2 := by rw [h8]; rfl
    have e2 : fv f = fv f1 + fv f2 := by rw [h8]; rfl
    obtain ⟨pre, qh, suf, hsp, w1, w2, w3, w4, w5⟩ := hfind_in h9
    have hMh := hMt
    obtain ⟨y1, y3⟩ := hMh qh (by rw [hsp]; simp) (by rw [w3]; exact hec)
    have hMet := met_thr hWB hAD IH hx0 hmu hM h5 hf1 hec (by omega) hnt r1 r4 hlt hA' (HR_w hR)
    rw [hBs] at hMet
    refine call_x (f := f1) (hrx _ hMet (by omega) (by omega)) hSS ?_
    intro ce q9 ρ' tys' H1 locs1 hE hft hR' hce hcv hcl
    rw [w3] at y3
    refine vx_catch hown (pre.map fun q => ⟨(d4 q).1, (d4 q).2.1, (d4 q).2.2.1, (d4 q).2.2.2⟩) ⟨qh.1, qh.2.1, qh.2.2.1, qh.2.2.2.1⟩ (suf.map fun q => ⟨(d4 q).1, (d4 q).2.1, (d4 q).2.2.1, (d4 q).2.2.2⟩) ?_ ?_ ?_ y1 (hts _ y3) (va_Nw.use rfl (hAmb.2.2.1 _ (hAC ec hec))) hce hcv hcl ?_
    · have hmi : mi ≠ 0 := fun h0 => by
        have h9 := htab.1 h0
        rw [hsp] at h9
        simp at h9
      rw [htab.2 hmi, hsp]
      unfold tableOf
      rw [List.map_append, List.map_append, List.map_cons, List.map_cons, List.map_map, List.map_map]
      rfl
    · intro z hz
      obtain ⟨z0, hz0, rfl⟩ := List.mem_map.mp hz
      rcases w5 z0 hz0 with h | ⟨h, x2⟩
      · refine Or.inl ?_
        cases hcv9 : covers ⟨(d4 z0).1, (d4 z0).2.1, (d4 z0).2.2.1, (d4 z0).2.2.2⟩ pc with
        | false => rfl
        | true => exact absurd (covers_of.mp hcv9) h
      · obtain ⟨x1, x3⟩ := hMh z0 (by rw [hsp]; exact List.mem_append_left _ hz0) x2
        exact Or.inr ⟨x1, ename z0.2.2.2.2, hts _ x3, hAmb.2.2.2.2.2.2.2.2 ec _ hec x2 (fun z => h z.symm)⟩
    · exact covers_of (q := d4 qh).mpr ⟨w1, w2⟩
    · show W p l e R s m args below meth c H1 locs1 (cells + fu f1) (slots + fv f1) Q (F0 m qh.2.2.1 ls [.ref q9])
      rw [w4]
      exact go_bump IH hmt h7 h8 C hR' hft (LR_more hE hL) (F2_mk ⟨q9, rfl⟩ F2_0) hE hu hv k
theorem s_spec (hWB : ∀ w ∈ WB, goodWord w = true) (hAD : ADok AD) (hFW : FWok FW) (IH : RSnd TB WB AD SR FW STP l g D sl rc) (hmt : TB[mi]? = some mt) {idx x y np : Nat} (hx0 : x ≠ 0) (hd : decode (mC mt.1) pc = .ok (.invokespecial idx, 3)) {mu : MT} (hmu : TB[x]? = some mu) (hM : MOK WB mu.1) (hnp : np = mN mu.1) (hnp1 : 0 < mN mu.1) (hl0 : Jvm.Cond.methodLink (mO mt.1) idx (mY mu.1) ∈ WB ∨ ∃ host, (mO mt.1, idx, mY mu.1, host) ∈ FW.2) (hl2 : Jvm.Cond.instanceMethod (mY mu.1) ∈ WB) (hini : (mY mu.1).name = "<init>") (hrn : mR mu.1 = none) (hh : mH mu.1 = []) (hl3 : (parseMethodDescriptor (mY mu.1).desc).map (fun d => d.parameters.length) = some (mN mu.1 - 1)) (h : aCall 2 3 x y np (mH mt.1) ev rc dep mi pc als ast ah nt = some f) : Snd WB AD SR FW STP l g D sl mt.1 dep mi pc als ast ah nt f := by
  obtain ⟨d, f1, rfl, h1, h2, h3, h4, h5, h6⟩ := aCall_in h
  intro p e R s m args below meth c H locs cells slots Q A ρ tys ls st C hR hnt hL hS hu hv k
  obtain ⟨hx, hb, hml, hts, hown, hin, hA, hAmb, hRR, hlt, hlk, htab, hret, hscr⟩ := id C
  obtain ⟨r1, r2, r3, r4, r5, r6⟩ := call_pre hWB hM hnp C hS h1 h2 h3
  have hSS := HR_S hR
  have hA' : ∀ q, H.size ≤ q → A q := fun q hq => hA q (Nat.le_trans hSS.1 hq)
  have hrv : ∃ (b : Nat) (Bs : List Value), (st.take np).reverse = .ref b :: Bs := by
    have h4 : isRv (ast.take np).reverse = true := h4
    unfold isRv at h4
    split at h4
    · rename_i a r ea
      rw [ea] at r1
      obtain ⟨v, vs, ev, hv1, hv2⟩ := F2_cons r1
      obtain ⟨b, rfl⟩ := vref h4 hv1
      exact ⟨b, vs, ev⟩
    · cases h4
  obtain ⟨b, Bs, hBs⟩ := hrv
  have hlen : Bs.length = mN mu.1 - 1 := by
    have := take_len r3
    rw [hBs, hnp] at this
    rw [List.length_cons] at this
    omega
  have hcw : cwd mu.1 ∈ WB := hM.2.1
  have hpr := pre_CP (vs := (st.take np).reverse) hAD hFW hAmb hR
  rw [hBs] at hpr
  have hpre : PreS s H (CP SR AD FW g D A tys (.ref b :: Bs) H) (.ref b :: Bs) := ⟨blind_CP hAD hFW, hpr⟩
  rcases aft_in h6 with ⟨hf1, f2, h7, h8⟩ | ⟨ec, hp, f2, -, ⟨h8, -⟩, -⟩
  · have e1 : fu f = fu f1 + fu f2 := by rw [h8]; rfl
    have e2 : fv f = fv f1 + fv f2 := by rw [h8]; rfl
    have hMet := met_ret IH hx0 hmu hM h5 hf1 hnt r1 r4 hlt hA' (HR_w hR)
    rw [hBs] at hMet
    rcases hl0 with hl1 | ⟨host, hho⟩
    rotate_left
    · exact call_go (f := f1) (va_runIN (As := Bs) (rest := st.drop np) (cc := mC mt.1) (own := mO mt.1) ⟨hx, hb, hml, hown, hts⟩ hMet ⟨va_cnB (mN mu.1 - 1) hts (gi hWB (fun w hw => by
          rcases List.mem_cons.mp hw with rfl | hw
          · exact hcw
          · exact hw)) (by rw [cwd_nil hh, hrn]) rfl rfl (hAmb.2.2.2.2.1.2 _ hho) (hts _ hM.2.2.1) ⟨hM.2.2.2.2.1.1, hM.2.2.2.2.1.2, hl3⟩ r6, hini, hts _ hl2⟩ hpre rfl hlen (LR_size hL) (stk_rcv hBs) r5 hd ⟨by omega, by omega⟩) hSS (go_ret (f1 := f1) IH hmt h7 h8 C hL r2 hu hv k)
    have hcall := cwI (own := mO mt.1) (index := idx) (rm := { frames := FRM d, cells := fu f1, slots := fv f1, locals := LOC d }) (R := R) (ws := cwd mu.1 :: WB) (mN mu.1 - 1) hts (gi hWB (fun w hw => by
          rcases List.mem_cons.mp hw with rfl | hw
          · exact hcw
          · exact hw)) (by rw [cwd_nil hh, hrn]) rfl rfl (hts _ hM.2.2.1) (hts _ hl1) (hts _ hl2) hini ⟨hM.2.2.2.2.1.1, hM.2.2.2.2.1.2, hl3⟩ r6
    exact call_go (f := f1) (va_runI (As := Bs) (rest := st.drop np) (cc := mC mt.1) (own := mO mt.1) ⟨hx, hb, hml, hown, hts⟩ hMet hcall hpre rfl hlen (LR_size hL) (stk_rcv hBs) r5 hd ⟨by omega, by omega⟩) hSS (go_ret (f1 := f1) IH hmt h7 h8 C hL r2 hu hv k)
  · cases h8
theorem s_face (hWB : ∀ w ∈ WB, goodWord w = true) (hAD : ADok AD) (hFW : FWok FW) (hAL : ∃ q, vwCl[0]? = some q ∧ q.1 = ALn) (IH : RSnd TB WB AD SR FW STP l g D sl rc) (hmt : TB[mi]? = some mt) {idx cnt x np : Nat} (hx0 : x ≠ 0) (hd : decode (mC mt.1) pc = .ok (.invokeinterface idx cnt, 5)) {mu : MT} {xn : MethodName} (hmu : TB[x]? = some mu) (hM : MOK WB mu.1) (hnp : np = mN mu.1) (hnp1 : 0 < mN mu.1) (hfw : (ALn, xn, mY mu.1) ∈ FW.1) (hl1 : Jvm.Cond.methodLink (mO mt.1) idx xn ∈ WB) (hl2 : Jvm.Cond.instanceMethod (mY mu.1) ∈ WB) (hl4 : Jvm.Cond.selects ALn xn (mY mu.1) ∈ WB) (hcl : (mY mu.1).cls = ALn) (hh : mH mu.1 = []) (hl3 : (parseMethodDescriptor xn.desc).map (fun d => d.parameters.length) = some (mN mu.1 - 1)) (h : aCall 3 5 x 0 np (mH mt.1) ev rc dep mi pc als ast ah nt = some f) : Snd WB AD SR FW STP l g D sl mt.1 dep mi pc als ast ah nt f := by
  obtain ⟨d, f1, rfl, h1, h2, h3, h4, h5, h6⟩ := aCall_in h
  intro p e R s m args below meth c H locs cells slots Q A ρ tys ls st C hR hnt hL hS hu hv k
  obtain ⟨hx, hb, hml, hts, hown, hin, hA, hAmb, hRR, hlt, hlk, htab, hret, hscr⟩ := id C
  obtain ⟨r1, r2, r3, r4, r5, r6⟩ := call_pre hWB hM hnp C hS h1 h2 h3
  have hSS := HR_S hR
  have hA' : ∀ q, H.size ≤ q → A q := fun q hq => hA q (Nat.le_trans hSS.1 hq)
  obtain ⟨q, hq1, hq2⟩ := hAL
  obtain ⟨b, Bs, hBs, cell, c1, c2, c3⟩ := recv_ok (rcv_obj (by decide) (by decide) h4) hR r1 hq1
  rw [hq2] at c3
  have hlen : Bs.length = mN mu.1 - 1 := by
    have := take_len r3
    rw [hBs, hnp] at this
    rw [List.length_cons] at this
    omega
  have hcw : cwd mu.1 ∈ WB := hM.2.1
  have hpr := pre_CP (vs := (st.take np).reverse) hAD hFW hAmb hR
  rw [hBs] at hpr
  have hpre : PreV s H ALn b (CP SR AD FW g D A tys (.ref b :: Bs) H) Bs := ⟨blind_CP hAD hFW, ⟨cell, c1, c2, c3⟩, hpr⟩
  have hgi : GoodIn WB (va_wsF (mO mt.1) idx ALn xn (mY mu.1) (cwd mu.1 :: WB)) := gi hWB (fun w hw => by
    rcases List.mem_append.mp hw with hw | hw
    · rcases List.mem_cons.mp hw with rfl | hw
      · exact hl1
      · rcases List.mem_cons.mp hw with rfl | hw
        · exact hl4
        · rcases List.mem_cons.mp hw with rfl | hw
          · exact hl2
          · rcases List.mem_cons.mp hw with rfl | hw
            · exact hM.2.2.1
            · cases hw
    · rcases List.mem_cons.mp hw with rfl | hw
      · exact hcw
      · exact hw)
  have hat : ClassAt s ALn (D.1 0) := by
    have := (hR.1.1 0 q hq1).2
    rw [hq2] at this
    exact this
  rcases aft_in h6 with ⟨hf1, f2, h7, h8⟩ | ⟨ec, hp, f2, -, ⟨h8, -⟩, -⟩
  · have e1 : fu f = fu f1 + fu f2 := by rw [h8]; rfl
    have e2 : fv f = fv f1 + fv f2 := by rw [h8]; rfl
    have hMet := met_ret IH hx0 hmu hM h5 hf1 hnt r1 r4 hlt hA' (HR_w hR)
    rw [hBs] at hMet
    have hno := hFW _ hfw
    have hcall := va_cwF (own := mO mt.1) (index := idx) (C := ALn) (x := xn) (rm := { frames := FRM d, cells := fu f1, slots := fv f1, locals := LOC d }) (R := R) (mN mu.1 - 1) hts hgi (by rw [cwd_nil hh]) rfl rfl (hAmb.2.2.2.2.1.1 _ hfw) ⟨hno.1, hno.2, hl3⟩ r6
    exact call_go5 (f := f1) (va_runF (As := Bs) (rest := st.drop np) (cc := mC mt.1) (own := mO mt.1) hat ⟨hx, hb, hml, hown, hts⟩ hMet hcall hpre rfl hlen (LR_size hL) (stk_rcv hBs) r5 hd ⟨by omega, by omega⟩) hSS (go_ret (f1 := f1) IH hmt h7 h8 C hL r2 hu hv k)
  · cases h8
end STEP
