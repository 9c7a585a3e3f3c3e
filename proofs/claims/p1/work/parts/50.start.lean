/-! the start of the law -/
theorem flag_ok {l : Launch} (h : l.flags = flags0) : l.stackTraces = false := by
  show (!l.flags.contains Jvm.noTraceFlag) = false
  rw [h]
  decide +kernel
theorem Kn_ex {args : Array Value} {s : State} (hts : ∀ w ∈ WB, w.before args s = true) : ∃ D : va_G, va_K D vwCl [] s := by
  have hk : ∀ c : Nat, ∃ r : ClassId × (Nat → Nat), ∀ q : vw_C, vwCl[c]? = some q → u_Kn s q.1 q.2.1 q.2.2 r.1 r.2 := by
    intro c
    cases e : vwCl[c]? with
    | none => exact ⟨((0 : Nat), fun _ => 0), fun q h => by cases h⟩
    | some q =>
      obtain ⟨h1, n, h2⟩ := uk_all q (List.mem_of_getElem? e)
      obtain ⟨cC, iS, h⟩ := u_known hts h1 (hts _ h2)
      exact ⟨(cC, iS), fun q' h' => by cases h'; exact h⟩
  exact ⟨(fun c => (Classical.choose (hk c)).1, fun c => (Classical.choose (hk c)).2), fun c q hq => Classical.choose_spec (hk c) q hq, fun k q h => by cases h⟩
set_option maxRecDepth 100000 in
theorem amb_start {args : Array Value} {s : State} (hts : ∀ w ∈ lw_tbl, w.before args s = true) (hgv : (Jvm.Cond.and given_1 narrow_1).before args s = true) {cur : Nat} (hcur : s.vm.findClass RX10 = some cur) : ∃ t0 : Nat, ∀ g : GV, g.2.2 = t0 → Amb SR AD FW g (fun q => s.heap.size ≤ q) s := by
  have hs := flat_of_before _ hgv
  have hA : ∀ a : Nat, a < s.heap.size → ¬ (s.heap.size ≤ a) := fun a h1 h2 => Nat.not_lt.mpr h2 h1
  obtain ⟨t0, ht0, hT⟩ := va_Tof (tm := .static ALn "DEFAULTCAPACITY_EMPTY_ELEMENTDATA" "[Ljava/lang/Object;") (ty := .object "java/lang/Object") (N := 0) (f := fun _ => .null) (A := fun q => s.heap.size ≤ q) (by decide) (hs (Cond.arrayOf (.static ALn "DEFAULTCAPACITY_EMPTY_ELEMENTDATA" "[Ljava/lang/Object;") (.object "java/lang/Object")) (by decide +kernel)) (va_eqt (hs (Cond.eq (.length (.static ALn "DEFAULTCAPACITY_EMPTY_ELEMENTDATA" "[Ljava/lang/Object;")) (.int 0)) (by decide +kernel))) (fun j hj => absurd hj (Nat.not_lt_zero _)) hA
  refine ⟨t0, fun g hg => ?_⟩
  subst hg
  refine ⟨va_Zof (hts _ zs_1) (hts _ zs_2) ht0 hA, ⟨_, _, hT⟩, fun w hw => ?_, ⟨va_AO.of (hts _ ao_0), va_AO.of (hts _ ao_1)⟩, fun q hq => ?_, fun q hq => ?_, vx_Zqof (hts _ zs_3) (hts _ zs_5) (hs (Cond.isRef (.static Bundle.tN "UNASSIGNED_STACK" Bundle.steD)) (by decide +kernel)) hA, vx_Zqof (hts _ zs_4) (hts _ zs_5) (hs (Cond.isRef (.static Bundle.tN "SUPPRESSED_SENTINEL" Bundle.listD)) (by decide +kernel)) hA, fun i j hi hj hij => ?_⟩
  · rcases AD_ok w hw with ⟨y, rfl⟩ | ⟨C, T, rfl⟩
    · exact va_Nw.of rfl (hts _ (List.mem_filter.mp hw).1)
    · exact va_Nw.of rfl (hts _ (List.mem_filter.mp hw).1)
  · obtain ⟨h1, h2, h3, h4, h5⟩ := fw_all q hq
    exact va_Fw.of (hts _ h1) (hts _ h2) (hts _ h3) (hts _ h4) (hts _ h5)
  · obtain ⟨e, hm⟩ := sr_all q hq
    obtain ⟨k, cf, i, a, -, -, -, -, -, hev⟩ := Cond.stringRef_spec (by rw [e]; exact hcur) (hts _ hm)
    exact ⟨a, vk_R.of (hts _ hm) hev⟩
  · match i, j, hi, hj, hij with
    | 0, 0, _, _, h => exact absurd rfl h
    | 0, 1, _, _, _ => exact va_Nc.of (hs (Cond.not (.castable (ename 0) (ename 1))) (by decide +kernel))
    | 0, 2, _, _, _ => exact va_Nc.of (hs (Cond.not (.castable (ename 0) (ename 2))) (by decide +kernel))
    | 1, 0, _, _, _ => exact va_Nc.of (hs (Cond.not (.castable (ename 1) (ename 0))) (by decide +kernel))
    | 1, 1, _, _, h => exact absurd rfl h
    | 1, 2, _, _, _ => exact va_Nc.of (hs (Cond.not (.castable (ename 1) (ename 2))) (by decide +kernel))
    | 2, 0, _, _, _ => exact va_Nc.of (hs (Cond.not (.castable (ename 2) (ename 0))) (by decide +kernel))
    | 2, 1, _, _, _ => exact va_Nc.of (hs (Cond.not (.castable (ename 2) (ename 1))) (by decide +kernel))
    | 2, 2, _, _, h => exact absurd rfl h
    | n + 3, _, h, _, _ => exact absurd h (by omega)
    | 0, n + 3, _, h, _ => exact absurd h (by omega)
    | 1, n + 3, _, h, _ => exact absurd h (by omega)
    | 2, n + 3, _, h, _ => exact absurd h (by omega)
theorem mask_ok (x : Int32) : ∃ m, m < 64 ∧ x &&& 63 = nI m := by
  have h : (63 : Int32).toBitVec.toNat = 2 ^ 6 - 1 := by decide
  exact ⟨x.toBitVec.toNat % 2 ^ 6, Nat.mod_lt _ (by decide), pk_and x 6 h⟩
theorem Bd_set {g : GV} {bnd : List (Nat × Nat)} (hB : Bd g bnd) {k : Nat} {q' : Nat × Nat} (h : ∀ x, g.1[k]? = some x → q'.1 ≤ off x ∧ off x ≤ q'.2) : Bd g (bnd.set k q') := by
  intro j r hj x hx
  rw [List.getElem?_set] at hj
  split at hj
  · rename_i e
    subst e
    split at hj
    · cases hj
      exact h x hx
    · cases hj
  · exact hB j r hj x hx
theorem Bd_full {g : GV} : Bd g FULL6 := by
  intro k q hk x hx
  have h := List.mem_of_getElem? hk
  have e : q = (0, 4294967295) := by
    unfold FULL6 at h
    simp at h
    exact h
  rw [e]
  have := off_lt x
  exact ⟨Nat.zero_le _, by show off x ≤ 4294967295; omega⟩
theorem chk_ok {g : GV} {m : Nat} (n : Nat) : ∀ (ts bnd r : List (Nat × Nat)), chk m n ts bnd = some r → Bd g bnd → ∃ bnd', Bd g bnd' ∧ okS (go2 (bnd', m, 6)) = true := by
  induction n with
  | zero => intro ts bnd r h; cases h
  | succ n ih =>
    intro ts bnd r h hB
    match ts, h with
    | [], h => cases h
    | (0, t2) :: ts, h =>
      have h : (match okS (go2 (bnd, m, 6)) with
        | true => some ts
        | false => none) = some r := h
      split at h
      · rename_i e
        exact ⟨bnd, hB, e⟩
      · cases h
    | (k + 1, t2) :: ts, h =>
      have h : (match bnd[k + 1]? with
        | none => none
        | some q => match chk m n ts (bnd.set (k + 1) (q.1, t2)) with
          | none => none
          | some ts' => chk m n ts' (bnd.set (k + 1) (t2 + 1, q.2))) = some r := h
      split at h
      · cases h
      · rename_i q hq
        split at h
        · cases h
        · rename_i ts' h1
          by_cases hle : ∀ x, g.1[k + 1]? = some x → off x ≤ t2
          · exact ih _ _ _ h1 (Bd_set hB (fun x hx => ⟨(hB _ _ hq x hx).1, hle x hx⟩))
          · refine ih _ _ _ h (Bd_set hB (fun x hx => ⟨?_, (hB _ _ hq x hx).2⟩))
            show t2 + 1 ≤ off x
            apply Nat.lt_of_not_le
            intro h9
            apply hle
            intro x' hx'
            cases hx.symm.trans hx'
            exact h9
theorem okS_in {r : Option Fin9} (h : okS r = true) : ∃ f, r = some f ∧ f.1 = 0 ∧ f.2.2.1 = .inl 1 ∧ fu f ≤ 1000 ∧ fv f ≤ 10000 := by
  unfold okS at h
  split at h
  · have h := and_cases h
    exact ⟨_, rfl, rfl, rfl, Nat.le_of_ble_eq_true h.1, Nat.le_of_ble_eq_true h.2⟩
  · cases h
theorem cases_ok {g : GV} {L : Nat} (hL : L ≤ 6) : ∃ ev : EV, okS (go2 ev) = true ∧ ev.2.2 = L ∧ Bd g ev.1 ∧ (ev.2.1 < 64 → ∀ x, g.1[0]? = some x → x &&& 63 = nI ev.2.1) := by
  obtain ⟨m, hm, hmx⟩ : ∃ m, m < 64 ∧ ∀ x, g.1[0]? = some x → x &&& 63 = nI m := by
    cases e : g.1[0]? with
    | none => exact ⟨0, by decide, fun x h => by cases h⟩
    | some x0 =>
      obtain ⟨m, h1, h2⟩ := mask_ok x0
      exact ⟨m, h1, fun x h => by cases h; exact h2⟩
  by_cases h6 : L < 6
  · exact ⟨(FULL6, m, L), shs L h6 m hm, rfl, Bd_full, fun _ => hmx⟩
  · have h6 : L = 6 := by omega
    subst h6
    obtain ⟨ts, hts⟩ := all_tr m hm
    obtain ⟨bnd, hB, hok⟩ := chk_ok 200 ts FULL6 [] hts Bd_full
    exact ⟨(bnd, m, 6), hok, rfl, hB, fun _ => hmx⟩
section ST
variable {l : Launch} {g : GV} {D : va_G} {sl : Nat} {ev : EV}
theorem sok_TF (hev : ev.1 ≠ [] → ev.2.2 = sl) (hsl : sl < 2 ^ 31) (hB : Bd g ev.1) (hM : ev.2.1 < 64 → ∀ x, g.1[0]? = some x → x &&& 63 = nI ev.2.1) : ∀ (mi : Nat) (t : List (Nat × Step)) (mt : MT), TF[mi]? = some t → TB[mi]? = some mt → ∀ q ∈ t, SOK TB WB AD SR FW STP l g D sl ev mt mi q.1 q.2 := by
  intro mi t mt ht hmt q hq
  obtain ⟨t', ht', hr⟩ := F2_get RT_ok hmt
  cases ht.symm.trans ht'
  rw [hr.1] at hq
  obtain ⟨q0, hq0, rfl⟩ := List.mem_map.mp hq
  exact step_ok WB_good AD_ok FW_ok AC_ok AO_ok AL_ok TL_ok NP_ok MO_ok MH_ok hev hsl hB hM hmt (hr.2 q0 hq0)
theorem sok_TF1 (hsl : sl < 2 ^ 31) : ∀ (mi : Nat) (t : List (Nat × Step)) (mt : MT), TF1[mi]? = some t → TB[mi]? = some mt → ∀ q ∈ t, SOK TB WB AD SR FW STP l g D sl ([], 64, 0) mt mi q.1 q.2 := by
  intro mi t mt ht hmt
  have hB : Bd g ([] : List (Nat × Nat)) := fun k q h => by cases h
  have hM : ((64 : Nat) < 64 → ∀ x, g.1[0]? = some x → x &&& 63 = nI 64) := fun h => absurd h (by decide)
  have key := sok_TF (l := l) (g := g) (D := D) (sl := sl) (ev := ([], 64, 0)) (fun h => absurd rfl h) hsl hB hM
  match mi, ht, hmt with
  | 0, ht, hmt =>
    have e : (23, aStop chkS) :: tf_L_law = t := Option.some.inj ht
    subst e
    intro q hq
    rcases List.mem_cons.mp hq with rfl | hq
    · exact stop_ok (fun als h => of_decide_eq_true h)
    · exact key 0 tf_L_law mt rfl hmt q hq
  | k + 1, ht, hmt =>
    refine key (k + 1) t mt ?_ hmt
    have h : (TF.drop 1)[k]? = some t := ht
    rw [List.getElem?_drop, Nat.add_comm] at h
    exact h
end ST
