/-! the claim is false -/
theorem flag_ok {l : Launch} (h : l.flags = flags0) : l.stackTraces = false := by
  show (!l.flags.contains Jvm.noTraceFlag) = false
  rw [h]
  decide +kernel
theorem Kn_ex {args : Array Value} {s : State} (hts : ∀ w ∈ WB, w.before args s = true) : ∃ D : va_G, va_K D vwCl [] s := by
  have hk : ∀ c : Nat, ∃ r : ClassId × (Nat → Nat), ∀ q : vw_C, vwCl[c]? = some q → u_Kn s q.1 q.2.1 q.2.2 r.1 r.2 := by
    intro c
    cases e : vwCl[c]? with
    | none => exact ⟨((0 : Nat), fun _ => 0), fun q h => by cases h⟩
    | some q =>
      obtain ⟨h1, n, h2⟩ := uk_all q (List.mem_of_getElem? e)
      obtain ⟨cC, iS, h⟩ := u_known hts h1 (hts _ h2)
      exact ⟨(cC, iS), fun q' h' => by cases h'; exact h⟩
  exact ⟨(fun c => (Classical.choose (hk c)).1, fun c => (Classical.choose (hk c)).2), fun c q hq => Classical.choose_spec (hk c) q hq, fun k q h => by cases h⟩
set_option maxRecDepth 100000 in
theorem amb_start {args : Array Value} {s : State} (hts : ∀ w ∈ lw_tbl, w.before args s = true) (hgv : (Jvm.Cond.and given_1 narrow_1).before args s = true) : ∃ t0 : Nat, ∀ g : GV, g.2.2 = t0 → Amb SR AD FW g (fun q => s.heap.size ≤ q) s := by
  have hs := flat_of_before _ hgv
  have hA : ∀ a : Nat, a < s.heap.size → ¬ (s.heap.size ≤ a) := fun a h1 h2 => Nat.not_lt.mpr h2 h1
  obtain ⟨t0, ht0, hT⟩ := va_Tof (tm := .static ALn "DEFAULTCAPACITY_EMPTY_ELEMENTDATA" "[Ljava/lang/Object;") (ty := .object "java/lang/Object") (N := 0) (f := fun _ => .null) (A := fun q => s.heap.size ≤ q) (by decide) (hs (Cond.arrayOf (.static ALn "DEFAULTCAPACITY_EMPTY_ELEMENTDATA" "[Ljava/lang/Object;") (.object "java/lang/Object")) (by decide +kernel)) (va_eqt (hs (Cond.eq (.length (.static ALn "DEFAULTCAPACITY_EMPTY_ELEMENTDATA" "[Ljava/lang/Object;")) (.int 0)) (by decide +kernel))) (fun j hj => absurd hj (Nat.not_lt_zero _)) hA
  refine ⟨t0, fun g hg => ?_⟩
  subst hg
  refine ⟨va_Zof (hts _ zs_1) (hts _ zs_2) ht0 hA, ⟨_, _, hT⟩, fun w hw => ?_, ⟨va_AO.of (hts _ ao_0), va_AO.of (hts _ ao_1)⟩, ⟨fun q hq => ?_, fun q hq => va_Nw.of rfl (hts _ (fn_all q hq))⟩, fun q hq => absurd hq List.not_mem_nil, vx_Zqof (hts _ zs_3) (hts _ zs_5) (hs (Cond.isRef (.static Bundle.tN "UNASSIGNED_STACK" Bundle.steD)) (by decide +kernel)) hA, vx_Zqof (hts _ zs_4) (hts _ zs_5) (hs (Cond.isRef (.static Bundle.tN "SUPPRESSED_SENTINEL" Bundle.listD)) (by decide +kernel)) hA, fun i j hi hj hij => ?_⟩
  · rcases AD_ok w hw with ⟨y, rfl⟩ | ⟨C, T, rfl⟩
    · exact va_Nw.of rfl (hts _ (List.mem_filter.mp hw).1)
    · exact va_Nw.of rfl (hts _ (List.mem_filter.mp hw).1)
  · obtain ⟨h1, h2, h3, h4, h5⟩ := fw_all q hq
    exact va_Fw.of (hts _ h1) (hts _ h2) (hts _ h3) (hts _ h4) (hts _ h5)
  · match i, j, hi, hj, hij with
    | 0, 0, _, _, h => exact absurd rfl h
    | 0, 1, _, _, _ => exact va_Nc.of (hs (Cond.not (.castable (ename 0) (ename 1))) (by decide +kernel))
    | 0, 2, _, _, _ => exact va_Nc.of (hs (Cond.not (.castable (ename 0) (ename 2))) (by decide +kernel))
    | 1, 0, _, _, _ => exact va_Nc.of (hs (Cond.not (.castable (ename 1) (ename 0))) (by decide +kernel))
    | 1, 1, _, _, h => exact absurd rfl h
    | 1, 2, _, _, _ => exact va_Nc.of (hs (Cond.not (.castable (ename 1) (ename 2))) (by decide +kernel))
    | 2, 0, _, _, _ => exact va_Nc.of (hs (Cond.not (.castable (ename 2) (ename 0))) (by decide +kernel))
    | 2, 1, _, _, _ => exact va_Nc.of (hs (Cond.not (.castable (ename 2) (ename 1))) (by decide +kernel))
    | 2, 2, _, _, h => exact absurd rfl h
    | n + 3, _, h, _, _ => exact absurd h (by omega)
    | 0, n + 3, _, h, _ => exact absurd h (by omega)
    | 1, n + 3, _, h, _ => exact absurd h (by omega)
    | 2, n + 3, _, h, _ => exact absurd h (by omega)
def bdB : List (Nat × Nat) → List Int32 → Bool
  | q :: l, x :: m => Nat.ble q.1 (off x) && (Nat.ble (off x) q.2 && bdB l m)
  | _, _ => true
theorem bdB_in : ∀ {l : List (Nat × Nat)} {m : List Int32}, bdB l m = true → ∀ (k : Nat) (q : Nat × Nat), l[k]? = some q → ∀ x, m[k]? = some x → q.1 ≤ off x ∧ off x ≤ q.2 := by
  intro l
  induction l with
  | nil => intro m _ k q hq; simp at hq
  | cons q0 l ih =>
    intro m h k q hq x hx
    cases m with
    | nil => simp at hx
    | cons x0 m =>
      have h1 := and_cases h
      have h2 := and_cases h1.2
      match k, hq, hx with
      | 0, hq, hx =>
        have e1 : q0 = q := by simpa using hq
        have e2 : x0 = x := by simpa using hx
        subst e1
        subst e2
        exact ⟨Nat.le_of_ble_eq_true h1.1, Nat.le_of_ble_eq_true h2.1⟩
      | k + 1, hq, hx => exact ih h2.2 k q (by simpa using hq) x (by simpa using hx)
theorem bd_ev : bdB bndL xsF = true := by decide +kernel
theorem xsF_len : xsF.length = 156 := by decide +kernel
def preF : (Jvm.Cond.and given_1 narrow_1).before start1.args0 stateF = true := su_andF givenF narrowF
theorem admF : launchF.admits envF := launchF.admits_env _ _ _
theorem NXEF : NXE launchF envF := ⟨admF, fairChoices_fair.cas, fairChoices_fair.clock, flag_ok rfl, by decide +kernel, by decide +kernel⟩
theorem walkF : ∃ t, Steps start1.p0.tables envF Lib.HandBits.below0 stateF t ∧ Dead start1.p0.tables envF Lib.HandBits.below0 t := by
  obtain ⟨meth, c, B, hml, hst⟩ := nx_body (l := launchF) (x := x) (S := headSpec (Jvm.Cond.code x code maxLocals ret :: tables_1) room_1) (code := code) (maxLocals := maxLocals) (ret := ret) (by decide) (fun args s m h hn => by
    obtain ⟨meth, c, h1, h2, h3, h4, h5, h6, -, -⟩ := Cond.code_spec hn (atoms_spec (ws := Jvm.Cond.code x code maxLocals ret :: tables_1) h _ List.mem_cons_self)
    exact ⟨meth, c, h1, h2, h3, h4, h5, h6⟩) start1.p0 admF fairChoices_fair.cas fairChoices_fair.clock (s := stateF) (m := ⟨0, 0⟩) (args := start1.args0) (below := Lib.HandBits.below0) rfl ((Spec.applies_iff_loose rfl).mp appF).1
  have hown : stateF.vm.findClass RL = some (⟨0, 0⟩ : MethodId).cls := findClass_of_methodNamed B.named
  have hts0 : ∀ c ∈ (Jvm.Cond.code x code maxLocals ret :: tables_1), c.before start1.args0 stateF = true := wordsF
  have hts : ∀ w ∈ lw_tbl, w.before start1.args0 stateF = true := k2_hts_sels lw_privs (fun w hw => hts0 w (List.mem_cons_of_mem _ hw)) lw_privs_ok
  have htsB : ∀ w ∈ WB, w.before start1.args0 stateF = true := fun w h => hts w (List.mem_filter.mp h).1
  have hml7 : c.maxLocals = 7 := B.maxLocals_eq (hts0 _ List.mem_cons_self)
  have X₀ := Stand.of_body B
  obtain ⟨D, hK⟩ := Kn_ex htsB
  obtain ⟨t0, hAm⟩ := amb_start hts preF
  have hX : va_X 0 156 (fun j => xsF.getD j 0) stateF stateF.heap := by
    refine ⟨{ cls := 45, slots := cellsF, vm := .none }, rfl, ⟨(fun k h => by cases h), ⟨_, rfl, _, rfl⟩⟩, (fun h => by cases h), by unfold cellsF; rw [List.size_toArray, List.length_map]; exact xsF_len, fun j hj => ?_⟩
    unfold cellsF
    have hj2 : j < xsF.length := by rw [xsF_len]; exact hj
    simp [hj2]
  have hbl : 0 < stateF.heap.size := (Array.getElem?_eq_some_iff.mp hX.choose_spec.1).1
  have C : Ctx WB AD SR FW (xsF, 0, t0) 156 md_L_law 200 0 start1.p0 launchF room_1 stateF ⟨0, 0⟩ start1.args0 meth c (fun q => stateF.heap.size ≤ q) :=
    ⟨B.exec, B.bytes, hml7, htsB, hown, (fun h => by cases h), fun q hq => hq, hAm (xsF, 0, t0) rfl, ⟨by decide +kernel, by decide +kernel⟩, flag_ok rfl, B.notSynchronized, ⟨fun _ => rfl, fun h => absurd rfl h⟩, B.returns, fun _ => ⟨fun j => xsF.getD j 0, hX, hbl, Nat.not_le.mpr hbl, fun j hj => by
      have hj2 : j < xsF.length := by rw [xsF_len]; exact hj
      simp [hj2]⟩⟩
  have hR0 : HR (xsF, 0, t0) D (fun q => stateF.heap.size ≤ q) stateF [] [] [] stateF.heap [] := ⟨hK, [], rfl, (fun k q h => by cases h), ⟨(fun i j p q h => by cases h), (fun k q h => by cases h)⟩, va_S.rf, F2_0⟩
  have hS0 : F2 (vrel (xsF, 0, t0) []) [(.inr (.inr (.inr (.inr 2))) : AV)] [Value.ref 0] := F2_mk (show Value.ref 0 = .ref 0 from rfl) F2_0
  have hL0 : LR (xsF, 0, t0) [] (mL md_L_law) [(0, .inr (.inr (.inr (.inr 2))))] ((lg_sl [Value.ref 0] ++ List.replicate (7 - (lg_sl [Value.ref 0]).length) Slot.unset).toArray) := ⟨_, lv_entry [Value.ref 0] (show (1 : Nat) ≤ 7 by decide), F2_args hS0 0⟩
  have K : W start1.p0 launchF envF room_1 stateF ⟨0, 0⟩ start1.args0 Lib.HandBits.below0 meth c stateF.heap [] 0 0 (Dead start1.p0.tables envF Lib.HandBits.below0) (entryFrame ⟨0, 0⟩ ([Value.ref 0] : List Value).toArray 7) := by
    rw [lg_entry_eq]
    exact law_start NXEF (fun k q hq x hx => bdB_in bd_ev k q hq x hx) C hR0 hL0 (by decide +kernel) (by decide +kernel) NXVF
  obtain ⟨t, a1, b1⟩ := K (stateF.setFrames (.java (entryFrame ⟨0, 0⟩ start1.args0 maxLocals) :: Lib.HandBits.below0)) rfl X₀
  exact ⟨t, hst t a1, b1⟩
theorem refuted : ¬ Claimed_1_1 := by
  intro h
  obtain ⟨n, o, hw, hrun, hend, -⟩ := h launchF rfl listsF trivial start1.p0 envF admF fairChoices_fair.cas fairChoices_fair.clock stateF ⟨0, 0⟩ start1.args0 Lib.HandBits.below0 rfl fitA fitH appF ⟨trivial, restF, preF⟩
  obtain ⟨t, ⟨k, hk, hkw⟩, hd⟩ := walkF
  rcases Nat.lt_or_ge n k with hnk | hnk
  · exact hend.not_within (hkw n hnk)
  · obtain ⟨j, rfl⟩ := Nat.exists_eq_add_of_le hnk
    rw [stepsAlone_add, hk] at hrun hend
    rcases hd with ⟨why, hd⟩ | ⟨⟨above, ha⟩, hd⟩
    · have hng : ¬ t.goesOn := fun hg => by
        have := hg.1
        rw [hd] at this
        cases this
      rw [stepsAlone_of_not_goesOn _ _ hng, hd] at hrun
      cases hrun
    · obtain ⟨cls, msg, cause, mid, hf⟩ := hd j
      exact hend.not_within ⟨.throwNew cls msg cause :: (mid ++ above), by rw [hf, ha]; simp, by simp, by simp⟩
