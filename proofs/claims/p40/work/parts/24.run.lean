/-! a whole run is sound -/
def SOK (TB : List MT) (WB AD : List Jvm.Cond) (SR : List (String × Nat × String)) (FW : FWT) (STP : Als × List AV) (l : Launch) (g : GV) (D : va_G) (sl : Nat) (ev : EV) (mt : MT) (mi pc : Nat) (F : Step) : Prop :=
  ∀ (rc : RC), RSnd TB WB AD SR FW STP l g D sl rc → ∀ (dep : Nat) (als : Als) (ast : List AV) (ah : List AC) (nt : Nat) (f : Fin9), F ev rc dep mi pc als ast ah nt = some f → Snd WB AD SR FW STP l g D sl mt.1 dep mi pc als ast ah nt f
/-- the stop of a run, with all its locals and its stack -/
def aStop (chk : Als → List AV → Bool) : Step := fun _ _ _ _ pc als ast ah nt =>
  match chk als ast with
  | true => some (9, pc, .inl 0, ah, nt, 0, 0)
  | false => none
section RUN
variable {TB : List MT} {WB AD : List Jvm.Cond} {SR : List (String × Nat × String)} {FW : FWT} {STP : Als × List AV} {l : Launch} {g : GV} {D : va_G} {sl : Nat} {ev : EV}
theorem stop_ok {mt : MT} {mi pc : Nat} {chk : Als → List AV → Bool} (hc : ∀ als ast, chk als ast = true → als = STP.1 ∧ ast = STP.2) : SOK TB WB AD SR FW STP l g D sl ev mt mi pc (aStop chk) := by
  intro rc IH dep als ast ah nt f h
  unfold aStop at h
  split at h
  · rename_i h1
    have h := sj h
    subst h
    obtain ⟨e1, e2⟩ := hc _ _ h1
    subst e1
    subst e2
    intro p e R s m args below meth c H locs cells slots Q A ρ tys ls st C hR hnt hL hS hu hv k
    exact k ρ tys H locs ls st cells slots Ext.rf hR hnt ⟨LR_size hL, Or.inr ⟨rfl, hL, hS⟩⟩ (Or.inr (Or.inl rfl)) (Nat.le_add_right _ _) (Nat.le_add_right _ _)
  · cases h
theorem run_ok {TF : List (List (Nat × Step))} (hT : ∀ (mi : Nat) (t : List (Nat × Step)) (mt : MT), TF[mi]? = some t → TB[mi]? = some mt → ∀ q ∈ t, SOK TB WB AD SR FW STP l g D sl ev mt mi q.1 q.2) (n : Nat) : RSnd TB WB AD SR FW STP l g D sl (run TF ev n) := by
  induction n with
  | zero => intro dep mi pc als ast ah nt f mt hmt h; cases h
  | succ n ih =>
    intro dep mi pc als ast ah nt f mt hmt h
    unfold run at h
    split at h
    · cases h
    · rename_i t ht
      split at h
      · cases h
      · rename_i F hF
        exact hT mi t mt ht hmt _ (lkp_mem hF) _ ih dep als ast ah nt f h
theorem beq_t {a b : Nat} (h : Nat.beq a b = true) : a = b := Nat.eq_of_beq_eq_true h
theorem step_ok (hWB : ∀ w ∈ WB, goodWord w = true) (hAD : ADok AD) (hFW : FWok FW) (hAC : ∀ i, i < 3 → Jvm.Cond.castable (ename i) (ename i) ∈ AD) (hAO : ∀ (cj : Nat) (r : vw_C), vwCl[cj]? = some r → (cj = 17 ∨ cj = 15 ∨ cj = 14) → Jvm.Cond.castable r.1 "java/lang/Object" ∈ AD) (hAL : ∃ q, vwCl[0]? = some q ∧ q.1 = ALn) (hTL : TB.length < 1000) {NP : Nat → Nat} (hNP : ∀ (x : Nat) (mt : MT), TB[x]? = some mt → NP x = mN mt.1) (hMO : ∀ (x : Nat) (mt : MT), x ≠ 0 → TB[x]? = some mt → MOK WB mt.1) (hMH : ∀ (x : Nat) (mt : MT), TB[x]? = some mt → HOK WB mt.1)
    (hev : ev.1 ≠ [] → ev.2.2 = sl) (hsl : sl < 2 ^ 31) (hB : Bd g ev.1) (hM : ev.2.1 < 64 → ∀ x, g.1[0]? = some x → x &&& 63 = nI ev.2.1) {mi : Nat} {mt : MT} (hmt : TB[mi]? = some mt) {pc : Nat} {ie : IE} (hI : IOK WB AD SR FW TB mt.1 pc ie) : SOK TB WB AD SR FW STP l g D sl ev mt mi pc (stepOf NP mt.1 ie) := by
  intro rc IH dep als ast ah nt f h
  obtain ⟨ins, x, y, z, fk⟩ := ie
  obtain ⟨i1, i2, i3⟩ := hI
  cases ins
  case ireturn => exact s_ret (ev := ev) (rc := rc) i1 h
  case return_ => exact s_void (ev := ev) (rc := rc) i1 i2 h
  case areturn => exact s_aret (ev := ev) (rc := rc) i1 i2 h
  case getfield idx => exact s_get (ev := ev) IH hmt i1 i2 h
  case putfield idx => exact s_put (ev := ev) IH hmt i1 i2.1 i2.2 h
  case iaload => exact s_iald (ev := ev) IH hmt i1 hev hsl hB h
  case baload => exact s_bald (ev := ev) IH hmt i1 h
  case laload => exact s_lald (ev := ev) IH hmt i1 h
  case aaload => exact s_aald (ev := ev) IH hmt i1 h
  case iastore => exact s_iast (ev := ev) IH hmt i1 h
  case bastore => exact s_bast (ev := ev) IH hmt i1 h
  case lastore => exact s_last (ev := ev) IH hmt i1 h
  case aastore => exact s_aast (ev := ev) IH hmt i1 hAO h
  case arraylength => exact s_alen (ev := ev) IH hmt i1 hev h
  case newarray aty => exact s_newa (ev := ev) IH hmt i1 i2.1 i2.2 h
  case anewarray idx => exact s_newq (ev := ev) IH hmt i1 i2.1 i2.2 h
  case ldc idx => exact s_ldc (ev := ev) IH hmt (Or.inl ⟨i1, rfl⟩) i3 h
  case ldc_w idx => exact s_ldc (ev := ev) IH hmt (Or.inr ⟨i1, rfl⟩) i3 h
  case checkcast idx => exact s_cast (ev := ev) IH hmt i1 i3 h
  case getstatic idx => exact s_gets (ev := ev) IH hmt i1 i2 h
  case tableswitch dflt lo hi offs =>
    obtain ⟨len, i1⟩ := i1
    exact s_tsw (ev := ev) IH hmt i1 h
  case new idx =>
    have i2 : (match (generalizing := false) Nat.ble 100 x with
      | true => THK WB AD SR mt.1 pc (x - 100)
      | false => NOK WB (mO mt.1) idx x fk) := i2
    have h : (match (generalizing := false) Nat.ble 100 x with
      | true => aThr (x - 100)
      | false => aNew x fk) ev rc dep mi pc als ast ah nt = some f := h
    cases e : Nat.ble 100 x with
    | true =>
      rw [e] at i2 h
      exact s_thr (ev := ev) (rc := rc) i2 h
    | false =>
      rw [e] at i2 h
      exact s_new (ev := ev) IH hmt i1 i2 h
  case invokespecial idx =>
    have h : (match (generalizing := false) Nat.beq x 1000 with
      | true => aGd aObj
      | false => match (generalizing := false) x with
        | 0 => aNo
        | x + 1 => aCall 2 3 (x + 1) y (NP (x + 1)) (mH mt.1)) ev rc dep mi pc als ast ah nt = some f := h
    rcases i3 with ⟨e, a1, a2, a3⟩ | e | ⟨mu, b1, b2, b3, b4, b5, b6, b7, b8⟩
    · have e : x = 1000 := e
      subst e
      exact s_obj (ev := ev) IH hmt i1 a1 a2 a3 h
    · have e : x = 0 := e
      subst e
      cases (show (none : Option Fin9) = some f from h)
    · have b1 : TB[x]? = some mu := b1
      have hlt := (List.getElem?_eq_some_iff.mp b1).1
      cases e : Nat.beq x 1000 with
      | true =>
        have := beq_t e
        omega
      | false =>
        rw [e] at h
        match x, b1, h with
        | 0, _, h => cases (show (none : Option Fin9) = some f from h)
        | x + 1, b1, h => exact s_spec (ev := ev) hWB hAD hFW IH hmt (Nat.succ_ne_zero x) i1 b1 (hMO _ _ (Nat.succ_ne_zero x) b1) (hNP _ _ b1) b8 b2 b3 b4 b5 b6 b7 h
  case invokestatic idx =>
    have h : (match (generalizing := false) Nat.beq x 1000 with
      | true => aGd (aWr 3 ref3 pcopy)
      | false => match (generalizing := false) Nat.beq x 1001 with
        | true => aGd (aSt 3 pmax)
        | false => match (generalizing := false) x with
          | 0 => aNo
          | x + 1 => aCall 0 3 (x + 1) y (NP (x + 1)) (mH mt.1)) ev rc dep mi pc als ast ah nt = some f := h
    rcases i3 with ⟨e, a1, a2, a3, a4⟩ | ⟨e, a1, a2, a3, a4⟩ | e | ⟨mu, b1, b2, b3, b4⟩
    · have e : x = 1000 := e
      subst e
      exact s_copy (ev := ev) IH hmt i1 a1 a2 a3 a4 h
    · have e : x = 1001 := e
      subst e
      exact s_max (ev := ev) IH hmt i1 a1 a2 a3 a4 h
    · have e : x = 0 := e
      subst e
      cases (show (none : Option Fin9) = some f from h)
    · have b1 : TB[x]? = some mu := b1
      have hlt := (List.getElem?_eq_some_iff.mp b1).1
      cases e : Nat.beq x 1000 with
      | true =>
        have := beq_t e
        omega
      | false =>
        rw [e] at h
        cases e1 : Nat.beq x 1001 with
        | true =>
          have := beq_t e1
          omega
        | false =>
          rw [e1] at h
          match x, b1, h with
          | 0, _, h => cases (show (none : Option Fin9) = some f from h)
          | x + 1, b1, h => exact s_stat (ev := ev) hWB hAD hFW IH hmt (Nat.succ_ne_zero x) i1 b1 (hMO _ _ (Nat.succ_ne_zero x) b1) (hNP _ _ b1) b2 b3 b4 h
  case invokevirtual idx =>
    have h : (match (generalizing := false) x with
      | 0 => aNo
      | x + 1 => aCall 1 3 (x + 1) y (NP (x + 1)) (mH mt.1)) ev rc dep mi pc als ast ah nt = some f := h
    rcases i3 with e | ⟨mu, b1, b2, b3, b4, b5, b6, b7⟩
    · have e : x = 0 := e
      subst e
      cases (show (none : Option Fin9) = some f from h)
    · have b1 : TB[x]? = some mu := b1
      match x, b1, h with
      | 0, _, h => cases (show (none : Option Fin9) = some f from h)
      | x + 1, b1, h => exact s_virt (ev := ev) hWB hAD hFW hAC (hMH _ _ hmt) IH hmt (Nat.succ_ne_zero x) i1 b1 (hMO _ _ (Nat.succ_ne_zero x) b1) (hNP _ _ b1) b7 b2 b3 b4 b5 b6 h
  case invokeinterface idx cnt =>
    have h : (match (generalizing := false) x with
      | 0 => aNo
      | x + 1 => aCall 3 5 (x + 1) y (NP (x + 1)) (mH mt.1)) ev rc dep mi pc als ast ah nt = some f := h
    rcases i3 with e | ⟨mu, xn, b1, b0, b2, b3, b4, b5, b9, b6, b7, b8⟩
    · have e : x = 0 := e
      subst e
      cases (show (none : Option Fin9) = some f from h)
    · have b1 : TB[x]? = some mu := b1
      have b9 : y = 0 := b9
      subst b9
      match x, b1, h with
      | 0, _, h => cases (show (none : Option Fin9) = some f from h)
      | x + 1, b1, h => exact s_face (ev := ev) hWB hAD hFW hAL IH hmt (Nat.succ_ne_zero x) i1 b1 (hMO _ _ (Nat.succ_ne_zero x) b1) (hNP _ _ b1) b8 b0 b2 b3 b4 b5 b6 b7 h
  all_goals exact s_ps (ev := ev) IH hmt hev hB hM i1 h
end RUN
