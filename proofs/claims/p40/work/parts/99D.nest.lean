/-! the nest closed: reduce() of the reference, called with 2048 frames left, comes to no end -/
def rmO (r : Nat) : Room := { frames := r - 1, cells := 60 * r + 1000, slots := 600 * r + 10000, locals := 30 * r + 6000 }
theorem FF1 {r : Nat} (h : 1 ≤ r) : (rmO r).frames + 1 ≤ (rmO (r + 1)).frames := by
  unfold rmO
  dsimp only
  omega
theorem FF2 {r m : Nat} (h : m ≤ 7) : 8 + (m + 11) + (rmO r).locals ≤ (rmO (r + 1)).locals := by
  unfold rmO
  dsimp only
  omega
theorem FF3 {r u : Nat} (h : u ≤ 60) : u + (rmO r).cells ≤ (rmO (r + 1)).cells := by
  unfold rmO
  dsimp only
  omega
theorem FF4 {r u : Nat} (h : u ≤ 600) : u + (rmO r).slots ≤ (rmO (r + 1)).slots := by
  unfold rmO
  dsimp only
  omega
section NEST
variable {p : Program} {l : Launch} {e : Env} {g : GV} {D : va_G}
theorem nR (hE : NXE l e) {r d n t n' t' : Nat} (hr1 : 1 ≤ r) (hd : d ≤ r) (hdl : 100 * d + 300 ≤ 30 * r + 6000) (h : ckR d n t n' t' = true) (hc : NXP p l e g D 12 (rmO r) (NWn n') nK (avT t') r) : NXP p l e g D 10 (rmO (r + 1)) (NWn n) nK (avT t) (r + 1) := by
  obtain ⟨ah', nt', u', v', hrun, hu, hv, ho, hw, ht, hl⟩ := ckP_in h
  refine nx_piece (sl := 0) hE (by decide) tb_X17_reduced (run_ok (sok_stp (by decide) 10 35) 4000) hrun (show (4 : Nat) ≤ 6 by decide) ⟨show d ≤ r + 1 - 1 by omega, show 100 * d + 300 ≤ 30 * (r + 1) + 6000 by omega⟩ (show u' ≤ 60 * (r + 1) + 1000 by omega) (show v' ≤ 600 * (r + 1) + 10000 by omega) ?_
  intro s m args below meth c A ρ tys H locs ls st cells slots C hR hnt hL hS hcl hsl hr hnn hV
  exact nx_next (rm := rmO (r + 1)) (rm' := rmO r) (ast := (stpR t').2) (als := (stpR t').1) (np := 4) (u := u') (v := v') hE r_X17_reduced_35 tb_X17_beneath (by decide) (wb_8 86 rfl rfl) rfl (show (4 : Nat) ≤ 4 by decide) (show (0 : Nat) ≤ 8 by decide) ho hw sel9_ris ht hl (FF1 hr1) (FF2 (show mL md_X17_beneath ≤ 7 by decide)) (FF3 hu) (FF4 hv) (by rw [st9_len]; exact hc) C hR hnt hL hS hcl hsl hr hnn hV
theorem nB (hE : NXE l e) {r n t t' : Nat} (h : ckB n t t' = true) (hr1 : 1 ≤ r) (hc : NXP p l e g D 10 (rmO r) (NWn n) nK (avT t') r) : NXP p l e g D 12 (rmO (r + 1)) (NWn n) nK (avT t) (r + 1) := by
  obtain ⟨ah', nt', u', v', hrun, hu, hv, ho, hw, ht, hl⟩ := ckP_in h
  refine nx_piece (sl := 0) hE (by decide) tb_X17_beneath (run_ok (sok_stp (by decide) 12 29) 100) hrun (show (4 : Nat) ≤ 7 by decide) ⟨Nat.zero_le _, show 100 * 0 + 300 ≤ 30 * (r + 1) + 6000 by omega⟩ (show u' ≤ 60 * (r + 1) + 1000 by omega) (show v' ≤ 600 * (r + 1) + 10000 by omega) ?_
  intro s m args below meth c A ρ tys H locs ls st cells slots C hR hnt hL hS hcl hsl hr hnn hV
  exact nx_next (rm := rmO (r + 1)) (rm' := rmO r) (ast := (stpB t').2) (als := (stpB t').1) (np := 4) (u := u') (v := v') hE r_X17_beneath_29 tb_X17_reduced (by decide) (wb_8 74 rfl rfl) rfl (show (4 : Nat) ≤ 4 by decide) (show (0 : Nat) ≤ 8 by decide) ho hw sel9_ris ht hl (FF1 hr1) (FF2 (show mL md_X17_reduced ≤ 7 by decide)) (FF3 hu) (FF4 hv) (by rw [st9_len]; exact hc) C hR hnt hL hS hcl hsl hr hnn hV
theorem nF (hE : NXE l e) : NXP p l e g D 10 (rmO 1) (NWn 54) nK (avT (tN 16)) 1 := by
  obtain ⟨ah', nt', u', v', hrun, hu, hv, ho, hw, ht, hl⟩ := ckP_in ev_f
  refine nx_piece (sl := 0) hE (by decide) tb_X17_reduced (run_ok (sok_stp (by decide) 10 5) 20) hrun (show (4 : Nat) ≤ 6 by decide) ⟨Nat.zero_le _, show 100 * 0 + 300 ≤ 30 * 1 + 6000 by omega⟩ (show u' ≤ 60 * 1 + 1000 by omega) (show v' ≤ 600 * 1 + 10000 by omega) ?_
  intro s m args below meth c A ρ tys H locs ls st cells slots C hR hnt hL hS hcl hsl hr hnn hV
  exact nx_last (rm := rmO 1) (ast := (stpF (tN 16)).2) (als := (stpF (tN 16)).1) (np := 1) (u := u') (v := v') hE r_X17_reduced_5 tb_X16_isVariable (by decide) (wb_8 78 rfl rfl) rfl (show (1 : Nat) ≤ 1 by decide) ho (show u' ≤ 60 * 1 + 1000 by omega) C hR hnt hL hS hcl hsl hr hnn hV
theorem all_in {m : Nat} {f : Nat → Bool} (h : (List.range m).all f = true) {j : Nat} (hj : j < m) : f j = true := List.all_eq_true.mp h j (List.mem_range.mpr hj)
theorem leaf_at {n : Nat} (h1 : 1 ≤ n) (h2 : n ≤ 54) : ckR 32 n 57 (n + 1) 95 = true := by
  obtain ⟨j, k, hj, rfl⟩ : ∃ j k, j < 9 ∧ n = 9 * k + 1 + j := ⟨(n - 1) % 9, (n - 1) / 9, Nat.mod_lt _ (by decide), by omega⟩
  have hk : k < 6 := by omega
  match k, hk with
  | 0, _ => rw [show 9 * 0 + 1 + j = 1 + j by omega, show 1 + j + 1 = 2 + j by omega]; exact all_in ev_leaf0 hj
  | 1, _ => rw [show 9 * 1 + 1 + j = 10 + j by omega, show 10 + j + 1 = 11 + j by omega]; exact all_in ev_leaf1 hj
  | 2, _ => rw [show 9 * 2 + 1 + j = 19 + j by omega, show 19 + j + 1 = 20 + j by omega]; exact all_in ev_leaf2 hj
  | 3, _ => rw [show 9 * 3 + 1 + j = 28 + j by omega, show 28 + j + 1 = 29 + j by omega]; exact all_in ev_leaf3 hj
  | 4, _ => rw [show 9 * 4 + 1 + j = 37 + j by omega, show 37 + j + 1 = 38 + j by omega]; exact all_in ev_leaf4 hj
  | 5, _ => rw [show 9 * 5 + 1 + j = 46 + j by omega, show 46 + j + 1 = 47 + j by omega]; exact all_in ev_leaf5 hj
theorem mid_at {n i : Nat} (h1 : 1 ≤ n) (h2 : n ≤ 54) (hi : i < 19) : ckR 2 n (tN i) n (tN i) = true ∧ ckB n (tN i) (tN (i + 1)) = true := by
  obtain ⟨j, k, hj, rfl⟩ : ∃ j k, j < 9 ∧ n = 9 * k + 1 + j := ⟨(n - 1) % 9, (n - 1) / 9, Nat.mod_lt _ (by decide), by omega⟩
  have hk : k < 6 := by omega
  match k, hk with
  | 0, _ => rw [show 9 * 0 + 1 + j = 1 + j by omega]; exact and_cases (all_in (all_in ev_mid0 hj) hi)
  | 1, _ => rw [show 9 * 1 + 1 + j = 10 + j by omega]; exact and_cases (all_in (all_in ev_mid1 hj) hi)
  | 2, _ => rw [show 9 * 2 + 1 + j = 19 + j by omega]; exact and_cases (all_in (all_in ev_mid2 hj) hi)
  | 3, _ => rw [show 9 * 3 + 1 + j = 28 + j by omega]; exact and_cases (all_in (all_in ev_mid3 hj) hi)
  | 4, _ => rw [show 9 * 4 + 1 + j = 37 + j by omega]; exact and_cases (all_in (all_in ev_mid4 hj) hi)
  | 5, _ => rw [show 9 * 5 + 1 + j = 46 + j by omega]; exact and_cases (all_in (all_in ev_mid5 hj) hi)
theorem nest_R (hE : NXE l e) (k : Nat) : ∀ n i : Nat, 1 ≤ n → 1 ≤ i → i ≤ 19 → 2 * k + 1 + 38 * (n - 1) + 2 * (i - 1) = 2045 → NXP p l e g D 10 (rmO (2 * k + 1)) (NWn n) nK (avT (tN i)) (2 * k + 1) := by
  induction k with
  | zero =>
    intro n i h1 h2 h3 h4
    have e1 : n = 54 := by omega
    have e2 : i = 16 := by omega
    subst e1
    subst e2
    exact nF hE
  | succ k ih =>
    intro n i h1 h2 h3 h4
    rcases Nat.lt_or_ge i 19 with h5 | h5
    · have hm := mid_at (n := n) (i := i) h1 (by omega) h5
      exact nR (r := 2 * k + 2) hE (by omega) (by omega) (by omega) hm.1 (nB (r := 2 * k + 1) hE hm.2 (by omega) (ih n (i + 1) h1 (by omega) (by omega) (by omega)))
    · have e1 : i = 19 := by omega
      subst e1
      have hm := mid_at (n := n + 1) (i := 0) (by omega) (by omega) (by decide)
      exact nR (r := 2 * k + 2) (d := 32) hE (by omega) (by omega) (by omega) (leaf_at h1 (by omega)) (nB (r := 2 * k + 1) hE hm.2 (by omega) (ih (n + 1) 1 (by omega) (by omega) (by omega) (by omega)))
theorem nest_top (hE : NXE l e) : NXP p l e g D 10 (rmO 2047) (NWn 0) nK (avT 99) 2047 :=
  nR (r := 2046) (d := 32) hE (by omega) (by omega) (by omega) ev_l0 (nB (r := 2045) hE (mid_at (n := 1) (i := 0) (by omega) (by omega) (by decide)).2 (by omega) (nest_R hE 1022 1 1 (by omega) (by omega) (by omega) (by omega)))
theorem nest (hE : NXE l e) : NXP p l e g D 95 (rmO 2048) NM nK [rf 0] 2048 := by
  obtain ⟨ah', nt', u', v', hrun, hu, hv, ho, hw, ht, hl⟩ := ckP_in ev_rd
  refine nx_piece (sl := 0) hE (by decide) tb_X17_reduce (run_ok (sok_stp (by decide) 95 45) 2000) hrun (show (1 : Nat) ≤ 3 by decide) ⟨show (40 : Nat) ≤ 2048 - 1 by decide, show 100 * 40 + 300 ≤ 30 * 2048 + 6000 by decide⟩ (show u' ≤ 60 * 2048 + 1000 by omega) (show v' ≤ 600 * 2048 + 10000 by omega) ?_
  intro s m args below meth c A ρ tys H locs ls st cells slots C hR hnt hL hS hcl hsl hr hnn hV
  exact nx_next (rm := rmO 2048) (rm' := rmO 2047) (r := 2047) (ast := stpRd.2) (als := stpRd.1) (np := 4) (u := u') (v := v') hE r_X17_reduce_45 tb_X17_reduced (by decide) (wb_8 74 rfl rfl) rfl (show (4 : Nat) ≤ 4 by decide) (show (0 : Nat) ≤ 8 by decide) ho hw sel9_ris ht hl (by decide) (by decide) (show u' + (60 * 2047 + 1000) ≤ 60 * 2048 + 1000 by omega) (show v' + (600 * 2047 + 10000) ≤ 600 * 2048 + 10000 by omega) (by rw [st9_len]; exact nest_top hE) C hR hnt hL hS hcl hsl hr hnn hV
end NEST
