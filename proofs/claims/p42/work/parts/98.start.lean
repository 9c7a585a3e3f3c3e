/-! the start of the law -/
theorem flag_ok {l : Launch} (h : l.flags = flags0) : l.stackTraces = false := by
  show (!l.flags.contains Jvm.noTraceFlag) = false
  rw [h]
  decide +kernel
theorem Kn_ex {args : Array Value} {s : State} (hts : ∀ w ∈ WB, w.before args s = true) : ∃ D : va_G, va_K D vwCl [] s := by
  have hk : ∀ c : Nat, ∃ r : ClassId × (Nat → Nat), ∀ q : vw_C, vwCl[c]? = some q → u_Kn s q.1 q.2.1 q.2.2 r.1 r.2 := by
    intro c
    cases e : vwCl[c]? with
    | none => exact ⟨((0 : Nat), fun _ => 0), fun q h => by cases h⟩
    | some q =>
      obtain ⟨h1, n, h2⟩ := uk_all q (List.mem_of_getElem? e)
      obtain ⟨cC, iS, h⟩ := u_known hts h1 (hts _ h2)
      exact ⟨(cC, iS), fun q' h' => by cases h'; exact h⟩
  exact ⟨(fun c => (Classical.choose (hk c)).1, fun c => (Classical.choose (hk c)).2), fun c q hq => Classical.choose_spec (hk c) q hq, fun k q h => by cases h⟩
set_option maxRecDepth 100000 in
theorem amb_start {args : Array Value} {s : State} {b L : Nat} {xs : Nat → Int32} (hts : ∀ w ∈ lw_tbl, w.before args s = true) (hgv : (Jvm.Cond.and given_1 narrow_1).before args s = true) {cur : Nat} (hcur : s.vm.findClass RX10 = some cur) (hX : va_X b L xs s s.heap) (hbl : b < s.heap.size) : ∀ g : GV, g.2.1 = b → g.2.2 = L → Amb SR AD FW g (fun q => s.heap.size ≤ q) s := by
  have hs := flat_of_before _ hgv
  have hA : ∀ a : Nat, a < s.heap.size → ¬ (s.heap.size ≤ a) := fun a h1 h2 => Nat.not_lt.mpr h2 h1
  intro g hg1 hg2
  refine ⟨trivial, trivial, fun w hw => ?_, ⟨xs, by rw [hg1, hg2]; exact hX, by rw [hg1]; exact hbl, by rw [hg1]; exact hA b hbl⟩, fun q hq => va_Nw.of rfl (hts _ (fw_all q hq)), fun q hq => ?_, vx_Zqof (hts _ zs_3) (hts _ zs_5) (hs (Cond.isRef (.static Bundle.tN "UNASSIGNED_STACK" Bundle.steD)) (by decide +kernel)) hA, vx_Zqof (hts _ zs_4) (hts _ zs_5) (hs (Cond.isRef (.static Bundle.tN "SUPPRESSED_SENTINEL" Bundle.listD)) (by decide +kernel)) hA, fun i j hi hj hij => ?_⟩
  · rcases AD_ok w hw with ⟨y, rfl⟩ | ⟨C, T, rfl⟩
    · exact va_Nw.of rfl (hts _ (List.mem_filter.mp hw).1)
    · exact va_Nw.of rfl (hts _ (List.mem_filter.mp hw).1)
  · obtain ⟨e, hm⟩ := sr_all q hq
    obtain ⟨k, cf, i, a, -, -, -, -, -, hev⟩ := Cond.stringRef_spec (by rw [e]; exact hcur) (hts _ hm)
    exact ⟨a, vk_R.of (hts _ hm) hev⟩
  · match i, j, hi, hj, hij with
    | 0, 0, _, _, h => exact absurd rfl h
    | 0, 1, _, _, _ => exact va_Nc.of (hs (Cond.not (.castable (ename 0) (ename 1))) (by decide +kernel))
    | 1, 0, _, _, _ => exact va_Nc.of (hs (Cond.not (.castable (ename 1) (ename 0))) (by decide +kernel))
    | 1, 1, _, _, h => exact absurd rfl h
    | 2, 0, _, _, _ => exact va_Nc.of (hs (Cond.not (.castable (ename 2) (ename 0))) (by decide +kernel))
    | 2, 1, _, _, _ => exact va_Nc.of (hs (Cond.not (.castable (ename 2) (ename 1))) (by decide +kernel))
    | n + 3, _, h, _, _ => exact absurd h (by omega)
    | _, n + 2, _, h, _ => exact absurd h (by omega)
section ST
variable {l : Launch} {g : GV} {D : va_G} {sl : Nat}
theorem sok_TF1 (hsl : sl < 2 ^ 31) : ∀ (mi : Nat) (t : List (Nat × Step)) (mt : MT), TF1[mi]? = some t → TB[mi]? = some mt → ∀ q ∈ t, SOK TB WB AD SR FW STP l g D sl ([], 64, 0) mt mi q.1 q.2 := by
  intro mi t mt ht hmt
  have hB : Bd g ([] : List (Nat × Nat)) := fun k q h => by cases h
  have hM : ((64 : Nat) < 64 → ∀ x, g.1[0]? = some x → x &&& 63 = nI 64) := fun h => absurd h (by decide)
  have key : ∀ (mi : Nat) (t : List (Nat × Step)) (mt : MT), TF[mi]? = some t → TB[mi]? = some mt → ∀ q ∈ t, SOK TB WB AD SR FW STP l g D sl ([], 64, 0) mt mi q.1 q.2 := by
    intro mi t mt ht hmt q hq
    obtain ⟨t', ht', hr⟩ := F2_get RT_ok hmt
    cases ht.symm.trans ht'
    rw [hr.1] at hq
    obtain ⟨q0, hq0, rfl⟩ := List.mem_map.mp hq
    exact step_ok WB_good AD_ok FW_ok AC_ok TL_ok NP_ok MO_ok MH_ok (fun h => absurd rfl h) hsl hB hM hmt (hr.2 q0 hq0)
  match mi, ht, hmt with
  | 0, ht, hmt =>
    have e : (258, aStop chkS) :: tf_L_law = t := Option.some.inj ht
    subst e
    intro q hq
    rcases List.mem_cons.mp hq with rfl | hq
    · exact stop_ok (fun als h => of_decide_eq_true h)
    · exact key 0 tf_L_law mt rfl hmt q hq
  | k + 1, ht, hmt =>
    refine key (k + 1) t mt ?_ hmt
    have h : (TF.drop 1)[k]? = some t := ht
    rw [List.getElem?_drop, Nat.add_comm] at h
    exact h
end ST
