/-! calls over one number -/
def HRNw (D : va_G) (q M : Nat) (A : Nat → Prop) (ρ : List Nat) (tys : TY) (H : Heap) : Prop := ∃ ws : va_W, ws.length = N0 + q ∧ ρ = ws.map Prod.fst ∧ va_P D vwCl ws H ∧ va_D A ws ∧ ∀ (j : Nat) (w : Nat × va_E), ws[j]? = some w → ∀ c, LT[j]? = some (some c) → crepV ρ tys M c w.2
theorem HRN_w {D : va_G} {q M : Nat} {A : Nat → Prop} {s : State} {ρ : List Nat} {tys : TY} {H : Heap} {locs : List Loc} (h : HRN LT N0 D q M A s ρ tys H locs) : HRNw D q M A ρ tys H := by
  obtain ⟨hK, ws, h0, e1, hP, hDD, hSS, hW⟩ := h
  exact ⟨ws, h0, e1, hP, hDD, hW⟩
theorem HRN_of {D : va_G} {q M : Nat} {A : Nat → Prop} {s : State} {ρ : List Nat} {tys : TY} {H : Heap} {locs : List Loc} (hK : va_K D vwCl tys s) (h : HRNw D q M A ρ tys H) (hS : va_S A s.heap H locs) : HRN LT N0 D q M A s ρ tys H locs := by
  obtain ⟨ws, h0, e1, hP, hDD, hW⟩ := h
  exact ⟨hK, ws, h0, e1, hP, hDD, hS, hW⟩
theorem HRN_S {D : va_G} {q M : Nat} {A : Nat → Prop} {s : State} {ρ : List Nat} {tys : TY} {H : Heap} {locs : List Loc} (h : HRN LT N0 D q M A s ρ tys H locs) : va_S A s.heap H locs := by
  obtain ⟨hK, ws, h0, e1, hP, hDD, hSS, hW⟩ := h
  exact hSS
theorem HRNw_grow {D : va_G} {q M : Nat} {A : Nat → Prop} {ρ : List Nat} {tys : TY} {H H1 : Heap} (h : HRNw D q M A ρ tys H) (hk : ∀ q : Nat, q < H.size → H1[q]? = H[q]?) : HRNw D q M A ρ tys H1 := by
  obtain ⟨ws, h0, e1, hP, hDD, hW⟩ := h
  exact ⟨ws, h0, e1, hP.kept (fun k q hq => hk _ (vx_lt hP hq)), hDD, hW⟩
def vresN (t : Nat) (v : Option Value) : Prop := match t with
  | 0 => False
  | 1 => v = none
  | n + 2 => v = some (.int (nI n))
def rstN (t : Nat) (rest : List AV) : List AV := match t with
  | n + 2 => .inl n :: rest
  | _ => rest
theorem vresN_F2 {g : GV} {ρ : List Nat} {t : Nat} {v : Option Value} {rest : List AV} {vs : List Value} (h : vresN t v) (hS : F2 (vrel g ρ) rest vs) : F2 (vrel g ρ) (rstN t rest) (v.toList ++ vs) := by
  match t, h with
  | 1, h => rw [show v = none from h]; exact hS
  | n + 2, h => rw [show v = some (.int (nI n)) from h]; exact F2_mk rfl hS
def CQN (D : va_G) (A : Nat → Prop) (ρ : List Nat) (q1 : Nat) (Pc : Nat → Nat → Prop) : Array Value → State → Outcome → State → Prop := fun _ st oc t => (∃ (tg M' : Nat) (v : Option Value) (ρ' : List Nat) (tys' : TY), Pc tg M' ∧ oc = .returned v ∧ vresN tg v ∧ ExtP q1 ρ ρ' ∧ va_K D vwCl tys' t ∧ HRNw D q1 M' A ρ' tys' t.heap) ∧ va_F A st t
section CALLN
variable {l : Launch} {g : GV} {D : va_G} {sl : Nat} {A : Nat → Prop}
theorem pre_CPN {tys : TY} {vs : List Value} {s : State} {H : Heap} {locs : List Loc} {q M : Nat} {ρ : List Nat} (hAmb : Amb SR AD FW g A s) (hR : HRN LT N0 D q M A s ρ tys H locs) : ∀ U : State, U.heap = H → s.WarmedH U.vm → CP SR AD FW g D A tys vs H vs.toArray U := fun U hU hW => ⟨rfl, hU, hAmb.warm AD_ok FW_ok (HRN_S hR) hU hW (fun _ h => h), hR.1.moved hW.alike⟩
theorem entryN {x d : Nat} (hx0 : x ≠ 0) {mt : MT} (hM : MOK WB mt.1) {ρ : List Nat} {tys : TY} {q M : Nat} {H0 : Heap} {vs : List Value} {avs : List AV} (hav : F2 (vrel g ρ) avs vs) (hcat : acats avs ≤ mL mt.1) (hl : l.stackTraces = false) (hA : ∀ q, H0.size ≤ q → A q) (hw : HRNw D q M A ρ tys H0) {rm : Room} (hrm : FRM d ≤ rm.frames ∧ LOC d ≤ rm.locals)
    {p : Program} {e : Env} {s : State} {m : MethodId} {args : Array Value} {below : List Frame} {meth : Method} {c : Code} {s₁ : State} (B : BodyLoose p l (mY mt.1) (headSpec (cwd mt.1 :: WB) rm) (mC mt.1) (mL mt.1) (mR mt.1) e s m args below meth c s₁) (hml : c.maxLocals = mL mt.1) (hP : CP SR AD FW g D A tys vs H0 args s) :
    Ctx WB AD SR FW g sl mt.1 d x p l (headSpec (cwd mt.1 :: WB) rm).room s m args meth c A ∧ HRN LT N0 D q M A s ρ tys s.heap [] ∧ ∃ ls, entryFrame m args (mL mt.1) = F0 m 0 ls [] ∧ LR g ρ (mL mt.1) (aargs 0 avs) ls := by
  obtain ⟨ha, hH, hAmb, hK⟩ := hP
  have hts0 := atoms_spec (ws := cwd mt.1 :: WB) B.pre
  obtain ⟨m1, m2, m3, m4, m5, m6, m7, m8, m9⟩ := hM
  obtain ⟨meth9, c9, h1, h2, -, -, -, -, h7⟩ := cwd_spec (hts0 _ List.mem_cons_self) B.named
  cases Option.some.inj (h1.symm.trans B.method)
  cases Option.some.inj (h2.symm.trans (Stand.of_body B).code)
  have hln := Nat.le_trans (lg_len vs) (by rw [F2_cats hav]; exact hcat)
  refine ⟨⟨B.exec, B.bytes, hml, fun w hw => hts0 w (List.mem_cons_of_mem _ hw), by rw [m6]; exact findClass_of_methodNamed B.named, fun hi => (name_of_methodNamed B.named B.method).1.trans (m7 hi), fun q hq => hA q (by rw [← hH]; exact hq), hAmb, hrm, hl, B.notSynchronized, ⟨fun h0 => absurd h0 hx0, fun _ => h7⟩, B.returns, fun h0 => absurd h0 hx0⟩, HRN_of hK (by rw [hH]; exact hw) va_S.rf, _, by rw [ha]; exact lg_entry_eq m vs (mL mt.1), ⟨_, lv_entry vs hln, F2_args hav 0⟩⟩
theorem finN_ret {md : MD} {t M' q1 : Nat} {Pc : Nat → Nat → Prop} (ht : t ≠ 0) (hp : Pc t M') {uc us : Nat} {p : Program} {e : Env} {R : Room} {s : State} {m : MethodId} {args : Array Value} {below : List Frame} {meth : Method} {c : Code} {d x : Nat} (C : Ctx WB AD SR FW g sl md d x p l R s m args meth c A) {ρ ρ' : List Nat} {tys' : TY} {H' : Heap} {locs' : List Loc} {pc' : Nat} {ls' : Array Slot} {st' : List Value} (hE : ExtP q1 ρ ρ') (hR' : HRN LT N0 D q1 M' A s ρ' tys' H' locs') (hF : FinN md t M' pc' ls' st') :
    W p l e R s m args below meth c H' locs' uc us (MQ below (CQN D A ρ q1 Pc) args s uc us A) (F0 m pc' ls' st') := by
  obtain ⟨hx, hb, hml, hts, hown, hin, hA, hAmb, hRR, hlt, hlk, htab, hret, hscr⟩ := C
  have hw := HRN_w hR'
  have hS' := HRN_S hR'
  have fin : ∀ (v : Option Value), vresN t v → ∀ U : State, U.heap = H' → s.WarmedH U.vm → CQN D A ρ q1 Pc args s (.returned v) U := fun v hv U hU hW => ⟨⟨t, M', v, ρ', tys', hp, rfl, hv, hE, hR'.1.moved hW.alike, by rw [hU]; exact hw⟩, hS'.F hU⟩
  match t, ht, hF, fin with
  | 1, _, hF, fin =>
    obtain ⟨rfl, hr0, hd⟩ := hF
    exact W.vret hx hb (hret.trans hr0) (fin _ rfl) hS'.2.2 hd hlk
  | v + 2, _, hF, fin =>
    obtain ⟨rfl, hro, hd⟩ := hF
    obtain ⟨ty, x, hr1, hr2, hr3⟩ := retok_ok (g := g) (ρ := ρ) (v := .int (nI v)) hro rfl
    cases hr2
    exact W.zret hx hb (hret.trans hr1) hr3 (fin _ rfl) hS'.2.2 hd hlk
theorem metN_ret {x d h u1 q q1 M : Nat} {Pc : Nat → Nat → Prop} (hx0 : x ≠ 0) {mt : MT} (hmt : TB[x]? = some mt) (hM : MOK WB mt.1) {ρ : List Nat} {tys : TY} {H0 : Heap} {vs : List Value} {avs : List AV} (hd : h ≤ d) (hrun : SN l g D sl h u1 q q1 x 0 (aargs 0 avs) [] M Pc) (hne : ∀ t M', Pc t M' → t ≠ 0) (hav : F2 (vrel g ρ) avs vs) (hcat : acats avs ≤ mL mt.1) (hl : l.stackTraces = false) (hA : ∀ q, H0.size ≤ q → A q) (hw : HRNw D q M A ρ tys H0) :
    Met l (mY mt.1) (cwd mt.1 :: WB) ({ frames := FRM d, cells := u1, slots := 10 * u1, locals := LOC d } : Room) (CP SR AD FW g D A tys vs H0) (CQN D A ρ q1 Pc) u1 (10 * u1) A := by
  refine MetFree.of_bodyS (code := mC mt.1) (maxLocals := mL mt.1) (ret := mR mt.1) hM.2.2.2.1 ?_ ?_
  · intro args s m h hn
    obtain ⟨meth, c, h1, h2, h3, h4, h5, h6, -⟩ := cwd_spec (atoms_spec (ws := cwd mt.1 :: WB) h _ List.mem_cons_self) hn
    exact ⟨meth, c, h1, h2, h3, h4, h5, h6⟩
  · intro p e s m args below meth c s₁ B hml hP _
    have hh0 : s₁.heap = s.heap := by rw [B.state]; rfl
    obtain ⟨C, hR, ls, els, hL⟩ := entryN (sl := sl) hx0 hM hav hcat hl hA hw (rm := { frames := FRM d, cells := u1, slots := 10 * u1, locals := LOC d }) ⟨Nat.le_refl _, Nat.le_refl _⟩ B hml hP
    have K : W p l e (headSpec (cwd mt.1 :: WB) ({ frames := FRM d, cells := u1, slots := 10 * u1, locals := LOC d } : Room)).room s m args below meth c s.heap [] 0 0 (MQ below (CQN D A ρ q1 Pc) args s u1 (10 * u1) A) (entryFrame m args (mL mt.1)) := by
      rw [els]
      refine hrun mt hmt d hd p e _ s m args below meth c s.heap [] 0 0 _ A ρ tys ls [] C hR hL F2_0 (by rw [Nat.zero_add]; exact Nat.le_refl _) (by rw [Nat.zero_add]; exact Nat.le_refl _) ?_
      intro t M' hp ρ' tys' H' locs' pc' ls' st' k n hE hR' hF hk hn
      exact W.widen (k := u1) (n := 10 * u1) (by omega) (by omega) (finN_ret (hne _ _ hp) hp C hE hR' hF)
    obtain ⟨t, a1, o, b1, b2, b3⟩ := K s₁ hh0 (Stand.of_body B)
    exact ⟨t, o, a1, b1, b2, ⟨b3.1, b3.2⟩⟩
section GO
variable {p : Program} {e : Env} {R : Room} {s : State} {m : MethodId} {args : Array Value} {below : List Frame} {meth : Method} {c : Code} {H : Heap} {locs : List Loc} {cells slots mc ms pc q1 : Nat} {Q : State → Prop} {ls : Array Slot} {st0 rest : List Value} {ρ : List Nat} {a : Array Value} {Pc : Nat → Nat → Prop}
theorem callN_go (hr : va_Run p l e R s m args below meth c H locs cells slots mc ms (F0 m pc ls st0) rest (CQN D A ρ q1 Pc a) A) (hS : va_S A s.heap H locs)
    (kk : ∀ (t M' : Nat) (v : Option Value) (ρ' : List Nat) (tys' : TY) (H1 : Heap) (locs1 : List Loc), Pc t M' → vresN t v → ExtP q1 ρ ρ' → HRN LT N0 D q1 M' A s ρ' tys' H1 locs1 → W p l e R s m args below meth c H1 locs1 (cells + mc) (slots + ms) Q (F0 m (pc + 3) ls (v.toList ++ rest))) : W p l e R s m args below meth c H locs cells slots Q (F0 m pc ls st0) := by
  intro T hT X
  obtain ⟨v, st₀, t, T', L, h0, X', hL, e1, e2, ⟨⟨tg, M', v', ρ', tys', hp, hv, hvr, hE, hK, hw⟩, hz, hk⟩, st⟩ := hr T hT X
  cases hv
  rw [h0] at hz hk
  have hal : s.vm.Alike t.vm := by rw [← e2]; exact X'.warmed.alike
  obtain ⟨t2, a1, b1⟩ := kk tg M' v ρ' tys' T'.heap (locs ++ L) hp hvr hE (HRN_of (hK.moved hal.symm) (by rw [e1]; exact hw) ⟨Nat.le_trans hS.1 (by rw [e1]; exact hz), fun q h1 h2 => by rw [e1, hk q (Nat.lt_of_lt_of_le h1 hS.1) h2]; exact hS.2.1 q h1 h2, fun q hq => (List.mem_append.mp hq).elim (hS.2.2 q) (hL q)⟩) T' rfl X'
  exact ⟨t2, st t2 a1, b1⟩
end GO
theorem calN_in {vk y np : Nat} {ast : List AV} (h : calN vk y np ast = true) : np ≤ ast.length ∧ acats (ast.drop np) ≤ 8 ∧ acats (ast.take np) = np ∧ rcvN vk y (ast.take np).reverse = true := by
  have h1 := and_cases h
  have h2 := and_cases h1.2
  have h3 := and_cases h2.2
  exact ⟨Nat.le_of_ble_eq_true h1.1, Nat.le_of_ble_eq_true h2.1, Nat.eq_of_beq_eq_true h3.1, h3.2⟩
theorem recvN {y : Nat} {args : List AV} (h : rcvN 1 y args = true) {s : State} {q M : Nat} {ρ : List Nat} {tys : TY} {H : Heap} {locs : List Loc} {As : List Value} (hR : HRN LT N0 D q M A s ρ tys H locs) (hS : F2 (vrel g ρ) args As) {qc : vw_C} (hq : vwCl[y]? = some qc) : ∃ (b : Nat) (Bs : List Value), As = .ref b :: Bs ∧ ∃ cell : Cell, H[b]? = some cell ∧ cell.vm.isStatics = false ∧ s.vm.findClass qc.1 = some cell.cls := by
  cases args with
  | nil => cases h
  | cons a0 r =>
    match a0, h, hS with
    | .inl _, h, _ => cases h
    | .inr (.inl _), h, _ => cases h
    | .inr (.inr (.inr _)), h, _ => cases h
    | .inr (.inr (.inl i)), h, hS =>
      have h : (match (generalizing := false) LT[i]? with
        | some (some (.inl (x, _))) => Nat.beq x y
        | _ => false) = true := h
      split at h
      · rename_i x fl hLi
        have h := Nat.eq_of_beq_eq_true h
        subst h
        obtain ⟨v, vs, rfl, hr1, hS1⟩ := F2_cons hS
        obtain ⟨b, hb, rfl⟩ := hr1
        obtain ⟨hK, ws, h0, e1, hP, hDD, hSS, hW⟩ := hR
        obtain ⟨en, hen⟩ := ρ_at e1 hb
        obtain ⟨fs, hfs, -⟩ := hW i _ hen _ hLi
        have hfs : en = .inr (x, fs) := hfs
        subst hfs
        exact ⟨b, vs, rfl, va_recv hK hP hq hen⟩
      · cases h
theorem LR_ext {ρ ρ' : List Nat} {q q1 : Nat} (hl : ρ.length = N0 + q) (hq : q ≤ q1) (h : ExtP q1 ρ ρ') : ∀ (i a : Nat), ρ[i]? = some a → ρ'[i]? = some a := by
  intro i a hi
  have := (List.getElem?_eq_some_iff.mp hi).1
  exact h i a (by omega) hi
section PC
variable {h u1 u2 q q1 q' mi pc x y z np : Nat} {md : MD} {tl : List (Nat × IE)} {fk : List Nat} {als : Als} {ast : List AV} {M : Nat} {P Pc : Nat → Nat → Prop}
theorem tl_small {x : Nat} {mu : MT} (hmu : TB[x]? = some mu) : x < 1000 := by
  have h2 := (List.getElem?_eq_some_iff.mp hmu).1
  have h3 := TL_ok
  omega
set_option maxRecDepth 100000 in
theorem p_st {idx : Nat} (hm : TB[mi]? = some (md, tl)) (hI : IOK WB AD SR FW TB md pc (.invokestatic idx, x, y, z, fk)) {mu : MT} (hmu : TB[x]? = some mu) (hM : MOK WB mu.1) (hx0 : x ≠ 0) (hnp : np = mN mu.1) (hca : calN 0 y np ast = true) (hq1 : q ≤ q1) (hcal : SN l g D sl h u1 q q1 x 0 (aargs 0 (ast.take np).reverse) [] M Pc) (hne : ∀ t M', Pc t M' → t ≠ 0) (k : ∀ t M', Pc t M' → SN l g D sl (h + 1) u2 q1 q' mi (pc + 3) als (rstN t (ast.drop np)) M' P) : SN l g D sl (h + 1) (u1 + u2) q q' mi pc als ast M P := by
  intro mt hmt dep hdep p e R s m args below meth c H locs cells slots Q A ρ tys ls st C hR hL hS hu hv K
  cases hm.symm.trans hmt
  obtain ⟨d, rfl⟩ : ∃ d, dep = d + 1 := ⟨dep - 1, by omega⟩
  obtain ⟨h1, h2, h3, h4⟩ := calN_in hca
  obtain ⟨hx, hb, hml, hts, hown, hin, hA, hAmb, hRR, hlt, hlk, htab, hret, hscr⟩ := id C
  obtain ⟨r1, r2, r3, r4, r5, r6⟩ := call_pre (mt := (md, tl)) WB_good hM hnp C hS h1 h2 h3
  have hSS := HRN_S hR
  have hA' : ∀ q, H.size ≤ q → A q := fun q hq => hA q (Nat.le_trans hSS.1 hq)
  have hsm := tl_small hmu
  obtain ⟨hl0, hl2, hl3⟩ : (Jvm.Cond.methodLink (mO md) idx (mY mu.1) ∈ WB ∨ (mH mu.1 = [] ∧ mH md = [] ∧ ∃ host, (mO md, idx, mY mu.1, host) ∈ FW.2)) ∧ Jvm.Cond.static (mY mu.1) ∈ WB ∧ (parseMethodDescriptor (mY mu.1).desc).map (fun d => d.parameters.length) = some (mN mu.1) := by
    rcases hI.2.2 with ⟨h9, -⟩ | ⟨h9, -⟩ | h9 | ⟨mt9, h9, h10⟩
    · have h9 : x = 1000 := h9
      omega
    · have h9 : x = 1001 := h9
      omega
    · exact absurd h9 hx0
    · cases hmu.symm.trans h9
      exact h10
  have hMet := metN_ret hx0 hmu hM (Nat.le_of_succ_le_succ hdep) hcal hne r1 r4 hlt hA' (HRN_w hR)
  have hpre : PreS s H (CP SR AD FW g D A tys (st.take np).reverse H) (st.take np).reverse := ⟨blind_CP AD_ok FW_ok, pre_CPN hAmb hR⟩
  have hlen := HRN_len hR
  have hgo : ∀ (t M' : Nat) (v : Option Value) (ρ' : List Nat) (tys' : TY) (H1 : Heap) (locs1 : List Loc), Pc t M' → vresN t v → ExtP q1 ρ ρ' → HRN LT N0 D q1 M' A s ρ' tys' H1 locs1 → W p l e R s m args below meth c H1 locs1 (cells + u1) (slots + 10 * u1) Q (F0 m (pc + 3) ls (v.toList ++ st.drop np)) := by
    intro t M' v ρ' tys' H1 locs1 hp hvr hE hR'
    have hmore := LR_ext hlen hq1 hE
    exact k t M' hp _ hmt (d + 1) hdep p e R s m args below meth c H1 locs1 (cells + u1) (slots + 10 * u1) Q A ρ' tys' ls _ C hR' (LR_more hmore hL) (vresN_F2 hvr (F2_more hmore r2)) (by omega) (by omega) (fun t2 M2 hp2 ρ2 tys2 H2 locs2 pc2 ls2 st2 k2 n2 hE2 hR2 hF2 hk2 hn2 => K t2 M2 hp2 ρ2 tys2 H2 locs2 pc2 ls2 st2 k2 n2 (ExtP.tr hlen (Or.inr hq1) hE hE2) hR2 hF2 (by omega) (by omega))
  have hcw : cwd mu.1 ∈ WB := hM.2.1
  rcases hl0 with hl1 | ⟨hh, hhc, host, hho⟩
  rotate_left
  · exact callN_go (va_runSN (As := (st.take np).reverse) (rest := st.drop np) (cc := mC md) (own := mO md) ⟨hx, hb, hml, hown, hts⟩ hMet
      ⟨va_cnB (mN mu.1) hts (gi WB_good (fun w hw => by
        rcases List.mem_cons.mp hw with rfl | hw
        · exact hcw
        · exact hw)) (by rw [cwd_nil hh]) rfl rfl (hAmb.2.2.2.2.1.2 _ hho) (hts _ hM.2.2.1) ⟨hM.2.2.2.2.1.1, hM.2.2.2.2.1.2, hl3⟩ r6, hts _ hl2, trivial⟩ hpre rfl ((take_len r3).trans hnp) ((LR_size hL)) (stk_eq np st) r5 hI.1 ⟨by omega, by omega⟩) hSS hgo
  by_cases hh : mH mu.1 = []
  · refine callN_go (va_runS (As := (st.take np).reverse) (rest := st.drop np) (cc := mC md) (own := mO md) ⟨hx, hb, hml, hown, hts⟩ hMet
      ⟨callB_of (mN mu.1) hts (gi WB_good (fun w hw => by
        rcases List.mem_cons.mp hw with rfl | hw
        · exact hcw
        · exact hw)) (by rw [cwd_nil hh]) rfl rfl (hts _ hM.2.2.1) (hts _ hl1) ⟨hM.2.2.2.2.1.1, hM.2.2.2.2.1.2, hl3⟩ r6, hts _ hl2⟩ hpre rfl ((take_len r3).trans hnp) ((LR_size hL)) (stk_eq np st) r5 hI.1 ⟨by omega, by omega⟩) hSS hgo
  · refine callN_go (vx_runSW (As := (st.take np).reverse) (rest := st.drop np) (cc := mC md) (own := mO md) (hh := (mH mu.1).map d4) ⟨hx, hb, hml, hown, hts⟩ hMet
      (vx_cwSW (mN mu.1) hts (gi WB_good (fun w hw => by
        rcases List.mem_append.mp hw with hw | hw
        · rcases List.mem_cons.mp hw with rfl | hw
          · exact hl1
          · rcases List.mem_cons.mp hw with rfl | hw
            · exact hl2
            · rcases List.mem_cons.mp hw with rfl | hw
              · exact hM.2.2.1
              · cases hw
        · rcases List.mem_cons.mp hw with rfl | hw
          · exact hcw
          · exact hw)) (by rw [cwd_cons hh]) rfl rfl ⟨hM.2.2.2.2.1.1, hM.2.2.2.2.1.2, hl3⟩ r6) hpre rfl ((take_len r3).trans hnp) ((LR_size hL)) (stk_eq np st) r5 hI.1 ⟨by omega, by omega⟩) hSS hgo
/-- what a virtual call stands on -/
theorem virt_words {idx : Nat} (hI : IOK WB AD SR FW TB md pc (.invokevirtual idx, x, y, z, fk)) {mu : MT} (hmu : TB[x]? = some mu) (hx0 : x ≠ 0) : (Jvm.Cond.methodLink (mO md) idx (mY mu.1) ∈ WB ∨ (mH mu.1 = [] ∧ mH md = [] ∧ ∃ host, (mO md, idx, mY mu.1, host) ∈ FW.2)) ∧ Jvm.Cond.instanceMethod (mY mu.1) ∈ WB ∧ Jvm.Cond.selects (mY mu.1).cls (mY mu.1) (mY mu.1) ∈ WB ∧ (∃ q, vwCl[y]? = some q ∧ q.1 = (mY mu.1).cls) ∧ (parseMethodDescriptor (mY mu.1).desc).map (fun d => d.parameters.length) = some (mN mu.1 - 1) ∧ 0 < mN mu.1 := by
  rcases hI.2.2 with h9 | ⟨mt9, h9, h10⟩
  · exact absurd h9 hx0
  · cases hmu.symm.trans h9
    exact h10
theorem virt_gi {idx : Nat} {mu : MT} (hM : MOK WB mu.1) (hl1 : Jvm.Cond.methodLink (mO md) idx (mY mu.1) ∈ WB) (hl2 : Jvm.Cond.instanceMethod (mY mu.1) ∈ WB) (hl4 : Jvm.Cond.selects (mY mu.1).cls (mY mu.1) (mY mu.1) ∈ WB) : GoodIn WB (wsV (mO md) idx (mY mu.1).cls (mY mu.1) (cwd mu.1 :: WB)) := gi WB_good (fun w hw => by
    rcases List.mem_append.mp hw with hw | hw
    · rcases List.mem_cons.mp hw with rfl | hw
      · exact hl1
      · rcases List.mem_cons.mp hw with rfl | hw
        · exact hl2
        · rcases List.mem_cons.mp hw with rfl | hw
          · exact hl4
          · rcases List.mem_cons.mp hw with rfl | hw
            · exact hM.2.2.1
            · cases hw
    · rcases List.mem_cons.mp hw with rfl | hw
      · exact hM.2.1
      · exact hw)
set_option maxRecDepth 100000 in
theorem p_vi {idx : Nat} (hm : TB[mi]? = some (md, tl)) (hI : IOK WB AD SR FW TB md pc (.invokevirtual idx, x, y, z, fk)) {mu : MT} (hmu : TB[x]? = some mu) (hM : MOK WB mu.1) (hx0 : x ≠ 0) (hnp : np = mN mu.1) (hca : calN 1 y np ast = true) (hq1 : q ≤ q1) (hcal : SN l g D sl h u1 q q1 x 0 (aargs 0 (ast.take np).reverse) [] M Pc) (hne : ∀ t M', Pc t M' → t ≠ 0) (k : ∀ t M', Pc t M' → SN l g D sl (h + 1) u2 q1 q' mi (pc + 3) als (rstN t (ast.drop np)) M' P) : SN l g D sl (h + 1) (u1 + u2) q q' mi pc als ast M P := by
  intro mt hmt dep hdep p e R s m args below meth c H locs cells slots Q A ρ tys ls st C hR hL hS hu hv K
  cases hm.symm.trans hmt
  obtain ⟨d, rfl⟩ : ∃ d, dep = d + 1 := ⟨dep - 1, by omega⟩
  obtain ⟨h1, h2, h3, h4⟩ := calN_in hca
  obtain ⟨hx, hb, hml, hts, hown, hin, hA, hAmb, hRR, hlt, hlk, htab, hret, hscr⟩ := id C
  obtain ⟨r1, r2, r3, r4, r5, r6⟩ := call_pre (mt := (md, tl)) WB_good hM hnp C hS h1 h2 h3
  have hSS := HRN_S hR
  have hA' : ∀ q, H.size ≤ q → A q := fun q hq => hA q (Nat.le_trans hSS.1 hq)
  obtain ⟨hl0, hl2, hl4, ⟨qc, hqc1, hqc2⟩, hl3, hnp1⟩ := virt_words hI hmu hx0
  obtain ⟨b, Bs, hBs, cell, c1, c2, c3⟩ := recvN h4 hR r1 hqc1
  rw [hqc2] at c3
  have hlenB : Bs.length = mN mu.1 - 1 := by
    have := take_len r3
    rw [hBs, hnp] at this
    rw [List.length_cons] at this
    omega
  have hcw : cwd mu.1 ∈ WB := hM.2.1
  have hpr := pre_CPN (vs := (st.take np).reverse) hAmb hR
  rw [hBs] at hpr
  have hpre : PreV s H (mY mu.1).cls b (CP SR AD FW g D A tys (.ref b :: Bs) H) Bs := ⟨blind_CP AD_ok FW_ok, ⟨cell, c1, c2, c3⟩, hpr⟩
  have hMet := metN_ret hx0 hmu hM (Nat.le_of_succ_le_succ hdep) hcal hne r1 r4 hlt hA' (HRN_w hR)
  rw [hBs] at hMet
  have hlen := HRN_len hR
  have hgo : ∀ (t M' : Nat) (v : Option Value) (ρ' : List Nat) (tys' : TY) (H1 : Heap) (locs1 : List Loc), Pc t M' → vresN t v → ExtP q1 ρ ρ' → HRN LT N0 D q1 M' A s ρ' tys' H1 locs1 → W p l e R s m args below meth c H1 locs1 (cells + u1) (slots + 10 * u1) Q (F0 m (pc + 3) ls (v.toList ++ st.drop np)) := by
    intro t M' v ρ' tys' H1 locs1 hp hvr hE hR'
    have hmore := LR_ext hlen hq1 hE
    exact k t M' hp _ hmt (d + 1) hdep p e R s m args below meth c H1 locs1 (cells + u1) (slots + 10 * u1) Q A ρ' tys' ls _ C hR' (LR_more hmore hL) (vresN_F2 hvr (F2_more hmore r2)) (by omega) (by omega) (fun t2 M2 hp2 ρ2 tys2 H2 locs2 pc2 ls2 st2 k2 n2 hE2 hR2 hF2 hk2 hn2 => K t2 M2 hp2 ρ2 tys2 H2 locs2 pc2 ls2 st2 k2 n2 (ExtP.tr hlen (Or.inr hq1) hE hE2) hR2 hF2 (by omega) (by omega))
  rcases hl0 with hl1 | ⟨hh, hhc, host, hho⟩
  rotate_left
  · exact callN_go (va_runVN (As := Bs) (rest := st.drop np) (cc := mC md) (own := mO md) (C := (mY mu.1).cls) ⟨hx, hb, hml, hown, hts⟩ hMet ⟨va_cnB (mN mu.1 - 1) hts (gi WB_good (fun w hw => by
        rcases List.mem_cons.mp hw with rfl | hw
        · exact hcw
        · exact hw)) (by rw [cwd_nil hh]) rfl rfl (hAmb.2.2.2.2.1.2 _ hho) (hts _ hM.2.2.1) ⟨hM.2.2.2.2.1.1, hM.2.2.2.2.1.2, hl3⟩ r6, hts _ hl2, hts _ hl4⟩ hpre rfl hlenB (LR_size hL) (stk_rcv hBs) r5 hI.1 ⟨by omega, by omega⟩) hSS hgo
  have hgi := virt_gi (md := md) (idx := idx) hM hl1 hl2 hl4
  by_cases hh : mH mu.1 = []
  · exact callN_go (va_runV (As := Bs) (rest := st.drop np) (cc := mC md) (own := mO md) ⟨hx, hb, hml, hown, hts⟩ hMet (cwV (own := mO md) (index := idx) (C := (mY mu.1).cls) (R := R) (mN mu.1 - 1) hts hgi (by rw [cwd_nil hh]) rfl rfl ⟨rfl, hM.2.2.2.2.1.1, hM.2.2.2.2.1.2, hl3⟩ r6) hpre rfl hlenB (LR_size hL) (stk_rcv hBs) r5 hI.1 ⟨by omega, by omega⟩) hSS hgo
  · exact callN_go (vx_runVW (As := Bs) (rest := st.drop np) (cc := mC md) (own := mO md) (hh := (mH mu.1).map d4) ⟨hx, hb, hml, hown, hts⟩ hMet (vx_cwVW (own := mO md) (index := idx) (C := (mY mu.1).cls) (R := R) (mN mu.1 - 1) hts hgi (by rw [cwd_cons hh]) rfl rfl ⟨rfl, hM.2.2.2.2.1.1, hM.2.2.2.2.1.2, hl3⟩ r6) hpre rfl hlenB (LR_size hL) (stk_rcv hBs) r5 hI.1 ⟨by omega, by omega⟩) hSS hgo
end PC
end CALLN
