/-! the class's reduce as one step of the run by numbers: its cells are forgotten behind it, the others stay -/
def unk1 : AV := .inr (.inr (.inr (.inr 1)))
def fgV (v : AV) : AV := match isI v with
  | true => unk1
  | false => v
def fgC (c : AC) : AC := match c with
  | .inl (x, vs) => .inl (x, vs.map fgV)
  | .inr (0, t, len, _, _) => .inr (0, t, len, [], unk1)
  | .inr (1, t, len, _, _) => .inr (1, t, len, [], unk1)
  | .inr r => .inr r
def fullC : Option LC → Bool
  | some (.inl (_, fl)) => fl.all Option.isSome
  | some (.inr (k, _, _, _, _, _)) => Nat.ble k 2
  | none => false
theorem LT_full : LT.all fullC = true := by decide +kernel
theorem LT_len : LT.length = 61 := by decide +kernel
theorem cls_one {s : State} {cA cA' : ClassId} : ∀ ty : FieldType, (∀ C, ty ≠ .object C) → va_RA s cA ty → va_RA s cA' ty → cA = cA' := by
  intro ty
  cases ty with
  | object C => exact fun h => absurd rfl (h C)
  | _ => exact fun _ h1 h2 => Option.some.inj (Eq.trans (Eq.symm h1) h2)
theorem cls_same {D : va_G} {tys tys' : TY} {s : State} (h : va_K D vwCl tys s) (h' : va_K D vwCl tys' s) {t t' k : Nat} {cA cA' : ClassId} (hk : k ≤ 2) (e : tys[t]? = some (cA, kty k)) (e' : tys'[t']? = some (cA', kty k)) : cA = cA' := by
  refine cls_one (kty k) ?_ (h.2 _ _ e).2 (h'.2 _ _ e').2
  match k, hk with
  | 0, _ => exact fun C z => by cases z
  | 1, _ => exact fun C z => by cases z
  | 2, _ => exact fun C z => by cases z
theorem fgF_ok {M M' : Nat} {g : GV} {ρ : List Nat} : ∀ (fl : List LF) (vs : List AV) (ws : List Value), fl.all Option.isSome = true → cvF M fl vs = true → F2 (lfok ρ M') fl ws → F2 (vrel g ρ) (vs.map fgV) ws := by
  intro fl
  induction fl with
  | nil =>
    intro vs ws _ h hF
    cases vs with
    | nil => rw [F2_nil hF]; exact F2_0
    | cons v m => cases h
  | cons f l ih =>
    intro vs ws hA h hF
    cases vs with
    | nil => cases h
    | cons v m =>
      have h1 := and_cases h
      have hA1 := and_cases (show (f.isSome && l.all Option.isSome) = true from hA)
      obtain ⟨w, ws', rfl, hr, hF'⟩ := F2_cons hF
      refine F2_mk ?_ (ih m ws' hA1.2 h1.2 hF')
      match f, hA1.1, h1.1, hr with
      | some (.inl a), _, h2, hr =>
        have h3 := and_cases h2
        obtain ⟨x, rfl, -⟩ := hr
        have e : fgV v = unk1 := by unfold fgV; rw [h3.1]
        rw [e]
        exact ⟨x, rfl⟩
      | some (.inr i), _, h2, hr =>
        match v, h2 with
        | .inr (.inr (.inl j)), h2 =>
          have h2 := Nat.eq_of_beq_eq_true h2
          subst h2
          exact hr
        | .inl _, h2 => cases h2
        | .inr (.inl _), h2 => cases h2
        | .inr (.inr (.inr _)), h2 => cases h2
theorem fgC_ok {M M' : Nat} {c : AC} {lc : LC} {e e' : va_E} {g : GV} {D : va_G} {ρ : List Nat} {tys tys' : TY} {s : State} (hK : va_K D vwCl tys s) (hK' : va_K D vwCl tys' s) (hf : fullC (some lc) = true) (h : cvC M c lc = true) (hr : crel g ρ tys c e) (hr' : crepV ρ tys' M' lc e') : crel g ρ tys (fgC c) e' := by
  match c, lc, hf, h, hr, hr' with
  | .inl (x', vs), .inl (x, fl), hf, h, hr, hr' =>
    have h1 := and_cases h
    have e1 := Nat.eq_of_beq_eq_true h1.1
    subst e1
    obtain ⟨fs, he, hF⟩ := hr'
    exact ⟨fs, fgF_ok fl vs fs hf h1.2 hF, he⟩
  | .inr (2, t, len', ups, d), .inr (k, len, base, w, C, hi), hf, h, hr, hr' =>
    have h1 := and_cases h
    have h2 := and_cases h1.2
    have h3 := and_cases h2.2
    have e1 := Nat.eq_of_beq_eq_true h1.1
    have e2 := Nat.eq_of_beq_eq_true h2.1
    have e3 := of_decide_eq_true h3.1
    have e4 := of_decide_eq_true h3.2
    subst e1
    subst e2
    subst e3
    subst e4
    obtain ⟨cA, ht, -⟩ := hr
    obtain ⟨cA', F, t', ht', he, z, hz, hz0⟩ := hr'
    have ec := cls_same hK hK' (by decide) ht ht'
    subst ec
    subst hz
    exact ⟨cA, ht, z, he, fun i hi => congrArg Value.long (hz0 i hi)⟩
  | .inr (0, t, len', ups, d), .inr (k, len, base, w, C, hi), hf, h, hr, hr' =>
    have h1 := and_cases h
    have h2 := and_cases h1.2
    have h3 := and_cases h2.2
    have e1 := Nat.eq_of_beq_eq_true h1.1
    have e3 := Nat.eq_of_beq_eq_true h3.1
    subst e1
    subst e3
    obtain ⟨cA, ht, -⟩ := hr
    obtain ⟨cA', F, t', ht', he, hA⟩ := hr'
    obtain ⟨f, hF, -⟩ := (crepA_int (by decide)).mp hA
    have ec := cls_same hK hK' (by decide) ht ht'
    subst ec
    subst hF
    exact ⟨cA, ht, f, he, fun i hi => ⟨_, rfl⟩⟩
  | .inr (1, t, len', ups, d), .inr (k, len, base, w, C, hi), hf, h, hr, hr' =>
    have h1 := and_cases h
    have h2 := and_cases h1.2
    have h3 := and_cases h2.2
    have e1 := Nat.eq_of_beq_eq_true h1.1
    have e3 := Nat.eq_of_beq_eq_true h3.1
    subst e1
    subst e3
    obtain ⟨cA, ht, -⟩ := hr
    obtain ⟨cA', F, t', ht', he, hA⟩ := hr'
    obtain ⟨f, hF, -⟩ := (crepA_int (by decide)).mp hA
    have ec := cls_same hK hK' (by decide) ht ht'
    subst ec
    subst hF
    exact ⟨cA, ht, f, he, fun i hi => ⟨_, rfl⟩⟩
  | .inr (n + 3, t, len', ups, d), .inr (k, len, base, w, C, hi), hf, h, hr, hr' =>
    have h : (Nat.beq (n + 3) k && (Nat.ble (n + 3) 1 && (Nat.beq len' len && (Nat.ble w C && (Nat.ble C hi && (Nat.ble hi len && cvA M d ups base w C (w + (hi - C)))))))) = true := h
    have h2 := Nat.le_of_ble_eq_true (and_cases (and_cases h).2).1
    omega
  | .inl _, .inr _, _, h, _, _ => cases h
  | .inr _, .inl _, _, h, _, _ => cases h
theorem F2_idx {α β : Type} {R : α → β → Prop} : ∀ {l : List α} {m : List β}, l.length = m.length → (∀ (i : Nat) (a : α) (b : β), l[i]? = some a → m[i]? = some b → R a b) → F2 R l m := by
  intro l
  induction l with
  | nil =>
    intro m hl _
    cases m with
    | nil => exact F2_0
    | cons b m => cases hl
  | cons a l ih =>
    intro m hl h
    cases m with
    | nil => cases hl
    | cons b m => exact F2_mk (h 0 a b rfl rfl) (ih (by simpa using hl) (fun i x y hx hy => h (i + 1) x y (by simpa using hx) (by simpa using hy)))
/-- what the check says of the cells: the world behind one number, over the first 61 -/
theorem HRNw_conv {g : GV} {D : va_G} {A A1 : Nat → Prop} {ws : va_W} {tys : TY} {ah : List AC} {H : Heap} (hP : va_P D vwCl ws H) (hD : va_D A ws) (hA1 : ∀ (k : Nat) (q : Nat × va_E), k < 61 → ws[k]? = some q → A1 q.1) (hW : F2 (fun (c : AC) (q : Nat × va_E) => crel g (ws.map Prod.fst) tys c q.2) ah ws) (hl : 61 ≤ ah.length) (h : cvH INIT (ah.take 61) LT = true) : HRNw D 0 INIT A1 ((ws.take 61).map Prod.fst) tys H := by
  have hlen := F2_len hW
  have hcut : ∀ (i a : Nat), ((ws.take 61).map Prod.fst)[i]? = some a ↔ i < 61 ∧ (ws.map Prod.fst)[i]? = some a := by
    intro i a
    rw [List.map_take, List.getElem?_take]
    split
    · rename_i h; exact ⟨fun z => ⟨h, z⟩, fun z => z.2⟩
    · rename_i h; exact ⟨(fun z => by cases z), (fun z => absurd z.1 h)⟩
  refine ⟨ws.take 61, by rw [List.length_take]; show min 61 ws.length = 61 + 0; omega, rfl, fun k q hq => hP k q (take_at hq), ⟨fun i j p q hp hq => hD.1 i j p q (take_at hp) (take_at hq), fun k q hq => ?_⟩, fun j w hw c hc => ?_⟩
  · have hk : k < 61 := by
      have h1 := (List.getElem?_eq_some_iff.mp hq).1
      rw [List.length_take] at h1
      omega
    exact hA1 k q hk (take_at hq)
  · have hj : j < 61 := by
      have h1 := (List.getElem?_eq_some_iff.mp hw).1
      rw [List.length_take] at h1
      omega
    have hw' := take_at hw
    obtain ⟨ac, hac⟩ : ∃ ac, ah[j]? = some ac := ⟨ah[j]'(by omega), List.getElem?_eq_getElem (by omega)⟩
    obtain ⟨b, hb, hr⟩ := F2_get hW hac
    cases hb.symm.trans hw'
    have hcv := cvH_get (ah.take 61) LT h j ac c (by rw [List.getElem?_take, if_pos hj]; exact hac) hc
    exact crepV_cut (n := N0 + 0) hcut (LT_ref (n := 0) hc hj) (cvC_ok hcv hr)
def aRed : Step := fun _ rc dep mi pc als ast ah nt => match ast with
  | .inr (.inr (.inl 0)) :: rest => match Nat.ble 43 dep && (Nat.ble (acats rest) 8 && (Nat.ble 61 ah.length && cvH INIT (ah.take 61) LT)) with
    | true => rc dep mi (pc + 3) als (.inl 4294967294 :: rest) ((ah.take 61).map fgC ++ ah.drop 61) nt
    | false => none
  | _ => none
theorem red_run : ∃ M, m_X10_reduce INIT = some (4294967296, M) := by
  obtain ⟨M, h⟩ := isRd_in red_ev
  exact ⟨M, h⟩
set_option maxRecDepth 100000 in
theorem red_ok {STP : Als × List AV} {l : Launch} {g : GV} {D : va_G} {sl : Nat} {ev : EV} : SOK TB WB AD SR FW STP l g D sl ev (md_L_reduce, tl_L_reduce) 106 3 aRed := by
  intro rc IH dep als ast ah nt f h
  unfold aRed at h
  split at h
  · rename_i rest
    split at h
    · rename_i hchk
      have k1 := and_cases hchk
      have k2 := and_cases k1.2
      have k3 := and_cases k2.2
      have hdep := Nat.le_of_ble_eq_true k1.1
      have hcat := Nat.le_of_ble_eq_true k2.1
      have hlah := Nat.le_of_ble_eq_true k3.1
      have hcv := k3.2
      obtain ⟨M1, hM1⟩ := red_run
      intro p e R s m args below meth c H locs cells slots Q A ρ tys ls st C hR hnt hL hS hu hv k
      obtain ⟨d, rfl⟩ : ∃ d, dep = d + 1 := ⟨dep - 1, by omega⟩
      obtain ⟨hx, hb, hml, hts, hown, hin, hA, hAmb, hRR, hlt, hlk, htab, hret, hscr⟩ := id C
      have hmu := tb_X10_reduce
      have hM := mo_X10_reduce
      have hI := r_L_reduce_3
      obtain ⟨hl0, hl2, hl4, ⟨qc, hqc1, hqc2⟩, hl3, hnp1⟩ := virt_words (mu := (md_X10_reduce, tl_X10_reduce)) hI hmu (by decide)
      obtain ⟨r1, r2, r3, r4, r5, r6⟩ := call_pre (np := 1) (mt := (md_L_reduce, tl_L_reduce)) WB_good hM rfl C hS (by simp) (by simpa using hcat) rfl
      obtain ⟨hK, ws, e1, hP, hDD, hSS, hW⟩ := hR
      have hlws := F2_len hW
      subst e1
      have hsub : ∀ q, va_A (ws.take 61) H.size q → A q := by
        intro q hq
        rcases hq with ⟨k9, e9, h9⟩ | h9
        · exact hDD.2 k9 (q, e9) (take_at h9)
        · exact hA q (Nat.le_trans hSS.1 h9)
      have hw : HRNw D 0 INIT (va_A (ws.take 61) H.size) ((ws.take 61).map Prod.fst) tys H := HRNw_conv hP hDD (fun k9 q h9 hq => Or.inl ⟨k9, q.2, by rw [List.getElem?_take, if_pos h9]; exact hq⟩) hW hlah hcv
      obtain ⟨v0, vs0, hst, hr0, hS0⟩ := F2_cons hS
      subst hst
      obtain ⟨b, hb0, rfl⟩ := hr0
      have hb1 : ((ws.take 61).map Prod.fst)[0]? = some b := by
        rw [List.map_take, List.getElem?_take, if_pos (by decide)]
        exact hb0
      -- the receiver's cell
      obtain ⟨cell, c1, c2, c3⟩ : ∃ cell : Cell, H[b]? = some cell ∧ cell.vm.isStatics = false ∧ s.vm.findClass qc.1 = some cell.cls := by
        obtain ⟨ws1, q0, q1, q2, q3, q4⟩ := id hw
        obtain ⟨en, hen⟩ := ρ_at q1 hb1
        obtain ⟨fs, hfs, -⟩ := q4 0 _ hen _ (show LT[0]? = some (some _) from rfl)
        have hfs : en = .inr (11, fs) := hfs
        subst hfs
        exact va_recv hK q2 hqc1 hen
      rw [hqc2] at c3
      have hpr : ∀ U : State, U.heap = H → s.WarmedH U.vm → CP SR AD FW g D (va_A (ws.take 61) H.size) tys [.ref b] H #[.ref b] U := fun U hU hW9 => ⟨rfl, hU, hAmb.warm AD_ok FW_ok hSS hU hW9 hsub, hK.moved hW9.alike⟩
      have hpre : PreV s H (mY md_X10_reduce).cls b (CP SR AD FW g D (va_A (ws.take 61) H.size) tys (.ref b :: []) H) [] := ⟨blind_CP AD_ok FW_ok, ⟨cell, c1, c2, c3⟩, hpr⟩
      have hMet := metN_ret (A := va_A (ws.take 61) H.size) (l := l) (g := g) (D := D) (sl := sl) (x := 94) (d := d) (h := 42) (u1 := 0) (q := 0) (q1 := 0) (M := INIT) (Pc := PR (4294967296, M1)) (by decide) hmu hM (ρ := (ws.take 61).map Prod.fst) (tys := tys) (H0 := H) (vs := [.ref b]) (avs := [.inr (.inr (.inl 0))]) (by omega) (snd_X10_reduce hM1) (fun t M' h9 => by cases h9; decide) (F2_mk ⟨b, hb1, rfl⟩ F2_0) (by decide) hlt (fun q hq => Or.inr hq) hw
      have hcw : cwd md_X10_reduce ∈ WB := hM.2.1
      rcases hl0 with hl1 | ⟨-, hhc, -⟩
      rotate_left
      · exact absurd hhc (by decide)
      have hgi := virt_gi (md := md_L_reduce) (idx := 67) hM hl1 hl2 hl4
      have hrun := va_runV (As := []) (rest := vs0) (cc := mC md_L_reduce) (own := mO md_L_reduce) (p := p) (l := l) (e := e) (R := R) (s := s) (m := m) (args := args) (below := below) (meth := meth) (c := c) (H := H) (locs := locs) (cells := cells) (slots := slots) (b := b) (g := F0 m 3 ls (.ref b :: vs0)) ⟨hx, hb, hml, hown, hts⟩ hMet (cwV (own := mO md_L_reduce) (index := 67) (C := (mY md_X10_reduce).cls) (R := R) (mN md_X10_reduce - 1) hts hgi (by rw [cwd_nil (show mH md_X10_reduce = [] from rfl)]) rfl rfl ⟨rfl, hM.2.2.2.2.1.1, hM.2.2.2.2.1.2, hl3⟩ r6) hpre rfl rfl (LR_size hL) rfl r5 hI.1 ⟨by omega, by omega⟩
      intro T hT X
      obtain ⟨v, st₀, t, T', L, h0, X', hL9, e1', e2', ⟨⟨tg, M', v', ρ', tys', hp, hv9, hvr, hE, hK', hw'⟩, hz, hkk⟩, st_⟩ := hrun T hT X
      cases hv9
      have hp : ((4294967296, M1) : Nat × Nat) = (tg, M') := hp
      cases hp
      have hvr : v = some (.int (nI 4294967294)) := hvr
      subst hvr
      rw [h0] at hz hkk
      have hal : s.vm.Alike t.vm := by rw [← e2']; exact X'.warmed.alike
      have hKs : va_K D vwCl tys' s := hK'.moved hal.symm
      obtain ⟨ws1, q0, q1, q2, q3, q4⟩ := hw'
      have hq0 : ws1.length = 61 := q0
      have hρ : ws1.map Prod.fst = (ws.take 61).map Prod.fst := by
        apply List.ext_getElem?
        intro i
        rw [← q1]
        rcases Nat.lt_or_ge i 61 with hi | hi
        · cases e9 : ((ws.take 61).map Prod.fst)[i]? with
          | none =>
            have := List.getElem?_eq_none_iff.mp e9
            rw [List.length_map, List.length_take] at this
            omega
          | some a => exact hE i a (show i < 61 + 0 by omega) e9
        · rw [List.getElem?_eq_none_iff.mpr (by rw [q1, List.length_map]; omega), List.getElem?_eq_none_iff.mpr (by rw [List.length_map, List.length_take]; omega)]
      have hfst : (ws1 ++ ws.drop 61).map Prod.fst = ws.map Prod.fst := by
        rw [List.map_append, hρ, ← List.map_append, List.take_append_drop]
      have hlws2 : (ws1 ++ ws.drop 61).length = ws.length := by
        rw [List.length_append, List.length_drop]; omega
      -- the cells behind the first 61 stand where they stood
      have hat : ∀ (k9 : Nat) (q9 : Nat × va_E), (ws1 ++ ws.drop 61)[k9]? = some q9 → (k9 < 61 ∧ ws1[k9]? = some q9) ∨ (61 ≤ k9 ∧ ws[k9]? = some q9) := by
        intro k9 q9 h9
        rcases Nat.lt_or_ge k9 61 with hk | hk
        · rw [List.getElem?_append_left (by omega)] at h9
          exact Or.inl ⟨hk, h9⟩
        · rw [List.getElem?_append_right (by omega), List.getElem?_drop, hq0] at h9
          refine Or.inr ⟨hk, ?_⟩
          rw [← h9]
          congr 1
          omega
      have hfs9 : ∀ (k9 : Nat) (q9 : Nat × va_E), (ws1 ++ ws.drop 61)[k9]? = some q9 → ∃ q8, ws[k9]? = some q8 ∧ q8.1 = q9.1 := by
        intro k9 q9 h9
        have h8 : (ws.map Prod.fst)[k9]? = some q9.1 := by rw [← hfst, List.getElem?_map, h9]; rfl
        rw [List.getElem?_map] at h8
        cases e8 : ws[k9]? with
        | none => rw [e8] at h8; cases h8
        | some q8 => rw [e8] at h8; exact ⟨q8, rfl, Option.some.inj h8⟩
      have hnew : HR g D A s (ws.map Prod.fst) tys ((ah.take 61).map fgC ++ ah.drop 61) T'.heap (locs ++ L) := by
        refine ⟨hK, ws1 ++ ws.drop 61, hfst.symm, fun k9 q9 h9 => ?_, ⟨fun i j p9 q9 hp9 hq9 he => ?_, fun k9 q9 h9 => ?_⟩, ⟨Nat.le_trans hSS.1 (by rw [e1']; exact hz), fun q h1 h2 => by rw [e1', hkk q (Nat.lt_of_lt_of_le h1 hSS.1) (fun z => h2 (hsub q z))]; exact hSS.2.1 q h1 h2, fun q hq => (List.mem_append.mp hq).elim (hSS.2.2 q) (fun z => hsub _ (hL9 q z))⟩, ?_⟩
        · rcases hat k9 q9 h9 with ⟨hk, h8⟩ | ⟨hk, h8⟩
          · rw [e1']; exact q2 k9 q9 h8
          · have h7 := hP k9 q9 h8
            refine h7.kept ?_
            rw [e1']
            refine hkk q9.1 h7.lt (fun z => ?_)
            rcases z with ⟨k6, e6, h6⟩ | z
            · have h5 := take_at h6
              have h4 := hDD.1 k6 k9 _ _ h5 h8 rfl
              have h3 := (List.getElem?_eq_some_iff.mp h6).1
              rw [List.length_take] at h3
              omega
            · exact absurd h7.lt (Nat.not_lt.mpr z)
        · obtain ⟨p8, a1, a2⟩ := hfs9 i p9 hp9
          obtain ⟨q8, b1, b2⟩ := hfs9 j q9 hq9
          exact hDD.1 i j p8 q8 a1 b1 (by rw [a2, b2, he])
        · obtain ⟨q8, b1, b2⟩ := hfs9 k9 q9 h9
          rw [← b2]
          exact hDD.2 k9 q8 b1
        · refine F2_idx (by rw [hlws2, List.length_append, List.length_map, List.length_take, List.length_drop]; omega) (fun i c9 q9 hc9 hq9 => ?_)
          rcases hat i q9 hq9 with ⟨hi, h8⟩ | ⟨hi, h8⟩
          · rw [List.getElem?_append_left (by rw [List.length_map, List.length_take]; omega), List.getElem?_map, List.getElem?_take, if_pos hi] at hc9
            obtain ⟨ac, hac⟩ : ∃ ac, ah[i]? = some ac := ⟨ah[i]'(by omega), List.getElem?_eq_getElem (by omega)⟩
            rw [hac] at hc9
            have hc9 : fgC ac = c9 := Option.some.inj hc9
            subst hc9
            obtain ⟨b9, hb9, hr9⟩ := F2_get hW hac
            obtain ⟨lo, hlo⟩ : ∃ lo, LT[i]? = some lo := ⟨LT[i]'(by rw [LT_len]; exact hi), List.getElem?_eq_getElem (by rw [LT_len]; exact hi)⟩
            have hfull : fullC lo = true := List.all_eq_true.mp LT_full lo (List.mem_of_getElem? hlo)
            match lo, hlo, hfull with
            | none, _, hfull => cases hfull
            | some lc, hlo, hfull =>
              have hcv9 := cvH_get (ah.take 61) LT hcv i ac lc (by rw [List.getElem?_take, if_pos hi]; exact hac) hlo
              have hrep := q4 i q9 h8 lc hlo
              rw [q1, hρ] at hrep
              have hmore : ∀ (i a : Nat), ((ws.take 61).map Prod.fst)[i]? = some a → (ws.map Prod.fst)[i]? = some a := fun i a h => by
                rw [List.map_take] at h
                exact take_at h
              exact fgC_ok hK hKs hfull hcv9 hr9 (crepV_more hmore (fun _ _ z => z) hrep)
          · rw [List.getElem?_append_right (by rw [List.length_map, List.length_take]; omega), List.getElem?_drop, List.length_map, List.length_take, show min 61 ah.length = 61 by omega, show 61 + (i - 61) = i by omega] at hc9
            obtain ⟨b9, hb9, hr9⟩ := F2_get hW hc9
            cases hb9.symm.trans h8
            exact hr9
      have hsnd := IH _ _ _ _ _ _ _ _ _ tb_L_reduce h p e R s m args below meth c T'.heap (locs ++ L) (cells + 0) (slots + 0) Q A (ws.map Prod.fst) tys ls (.int (nI 4294967294) :: vs0) C hnew hnt hL (F2_mk rfl hS0) (by omega) (by omega) k
      obtain ⟨t2, a1, b1⟩ := hsnd T' rfl X'
      exact ⟨t2, st_ t2 a1, b1⟩
    · cases h
  · cases h
