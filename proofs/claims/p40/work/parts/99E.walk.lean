/-! the law's walk: row by row to the reference's reduce, which comes to no end -/
section LAW
variable {p : Program} {l : Launch} {e : Env} {g : GV} {D : va_G}
def HL (p : Program) (l : Launch) (e : Env) (g : GV) (D : va_G) (AH : List AC) (nt i U V : Nat) : Prop :=
  ∀ (s : State) (m : MethodId) (args : Array Value) (below : List Frame) (meth : Method) (c : Code) (A : Nat → Prop) (ρ : List Nat) (tys : TY) (H : Heap) (locs : List Loc) (ls : Array Slot) (cells slots : Nat),
    Ctx WB AD SR FW g 156 md_L_law 200 0 p l room_1 s m args meth c A → HR g D A s ρ tys AH H locs → tys.length = nt → LR g ρ (mL md_L_law) (alsL i) ls → cells ≤ U → slots ≤ V → below.length + 2049 = (e.platform.limitsFor 0).1 → nonote below = true → NXV s → W p l e room_1 s m args below meth c H locs cells slots (Dead p.tables e below) (F0 m 23 ls [])
theorem sokL (hB : Bd g bndL) {STP : Als × List AV} : ∀ (mi : Nat) (t : List (Nat × Step)) (mt : MT), TF[mi]? = some t → TB[mi]? = some mt → ∀ q ∈ t, SOK TB WB AD SR FW STP l g D 156 evL mt mi q.1 q.2 :=
  sok_TF (ev := evL) (sl := 156) (fun _ => rfl) (by decide) hB (fun h => absurd h (by decide))
theorem law_step (hB : Bd g bndL) {AH AH' : List AC} {nt nt' i i' U V : Nat} (hck : ckL (runL i i' AH nt) 23 10 300 AH' nt' = true) (hU : U + 10 ≤ room_1.cells) (hV : V + 300 ≤ room_1.slots) (next : HL p l e g D AH' nt' i' (U + 10) (V + 300)) : HL p l e g D AH nt i U V := by
  intro s m args below meth c A ρ tys H locs ls cells slots C hR hnt hL hcl hsl hr hnn hNV
  obtain ⟨ah', u', v', hrun, hu, hv, hn⟩ := ckL_in hck
  refine run_ok (sok_tfsB (STP := (alsL i', [])) (sokL (l := l) (D := D) hB) (fun mt hmt => stp_ok (stpAt_ok (ev := evL) (sl := 156) (fun _ => rfl) (by decide) hB (fun h => absurd h (by decide)) mt hmt))) 60000 200 0 23 (alsL i) [] AH nt _ (md_L_law, tl_L_law) tb_L_law hrun p e room_1 s m args below meth c H locs cells slots _ A ρ tys ls [] C hR hnt hL F2_0 (show cells + u' ≤ room_1.cells by omega) (show slots + v' ≤ room_1.slots by omega) ?_
  intro ρ' tys' H' locs' ls' st' k n hE hR' hft hF hc9 hk9 hn9
  have hk9 : k ≤ cells + u' := hk9
  have hn9 : n ≤ slots + v' := hn9
  have hF : ls'.size = mL md_L_law ∧ ((6 < 3 ∧ st' = [] ∧ THK WB AD SR md_L_law 23 6) ∨ (6 = 6 ∧ LR g ρ' (mL md_L_law) (alsL i') ls' ∧ F2 (vrel g ρ') [] st')) := hF
  rcases hF.2 with ⟨h9, -⟩ | ⟨-, hL', hS'⟩
  · omega
  · rw [F2_nil hS']
    exact next s m args below meth c A ρ' tys' H' locs' ls' k n C (HR_norm hn hR') hft hL' (by omega) (by omega) hr hnn hNV
theorem law_last (hE : NXE l e) (hB : Bd g bndL) : HL p l e g D AL25 100 150 450 107500 := by
  intro s m args below meth c A ρ tys H locs ls cells slots C hR hnt hL hcl hsl hr hnn hNV
  obtain ⟨ah', nt', u', v', hrun, hu, hv, ho, hw, ht, hl⟩ := ckM_in ev_last
  refine run_ok (sok_tfsB (STP := ([], [rf 61])) (sok_tfsB (sokL (l := l) (D := D) hB) (fun mt hmt => by
    cases tb_L_reduce.symm.trans hmt
    exact red_ok)) (fun mt hmt => stp_ok (stpAt_ok (ev := evL) (sl := 156) (fun _ => rfl) (by decide) hB (fun h => absurd h (by decide)) mt hmt))) 60000 200 0 23 (alsL 150) [] AL25 100 _ (md_L_law, tl_L_law) tb_L_law hrun p e room_1 s m args below meth c H locs cells slots _ A ρ tys ls [] C hR hnt hL F2_0 (show cells + u' ≤ room_1.cells from Nat.le_trans (show cells + u' ≤ 460 by omega) (by decide)) (show slots + v' ≤ room_1.slots from Nat.le_trans (show slots + v' ≤ 107800 by omega) (by decide)) ?_
  intro ρ' tys' H' locs' ls' st' k n hE' hR' hft hF hc9 hk9 hn9
  have hk9 : k ≤ cells + u' := hk9
  have hn9 : n ≤ slots + v' := hn9
  have hF : ls'.size = mL md_L_law ∧ ((6 < 3 ∧ st' = [] ∧ THK WB AD SR md_L_law 770 6) ∨ (6 = 6 ∧ LR g ρ' (mL md_L_law) [] ls' ∧ F2 (vrel g ρ') [rf 61] st')) := hF
  rcases hF.2 with ⟨h9, -⟩ | ⟨-, hL', hS'⟩
  · omega
  · exact nx_next (mt := (md_L_law, tl_L_law)) (mu := (md_X17_reduce, tl_X17_reduce)) (rm := room_1) (rm' := rmO 2048) (r := 2048) (ast := [rf 61]) (als := []) (np := 1) (u := 460) (v := 107800) hE r_L_law_770 tb_X17_reduce (by decide) (wb_10 236 rfl rfl) rfl (show (1 : Nat) ≤ 1 by decide) (show (0 : Nat) ≤ 8 by decide) ho hw selM_ris ht hl (by decide) (by decide) (by decide) (by decide) (by rw [stM_len]; exact nest hE) C hR' hft hL' hS' (by omega) (by omega) hr hnn hNV
theorem law_24 (hE : NXE l e) (hB : Bd g bndL) : HL p l e g D AL24 99 144 440 107200 := law_step hB ev_row25 (by decide) (by decide) (law_last hE hB)
theorem law_23 (hE : NXE l e) (hB : Bd g bndL) : HL p l e g D AL23 98 138 430 106900 := law_step hB ev_row24 (by decide) (by decide) (law_24 hE hB)
theorem law_22 (hE : NXE l e) (hB : Bd g bndL) : HL p l e g D AL22 97 132 420 106600 := law_step hB ev_row23 (by decide) (by decide) (law_23 hE hB)
theorem law_21 (hE : NXE l e) (hB : Bd g bndL) : HL p l e g D AL21 96 126 410 106300 := law_step hB ev_row22 (by decide) (by decide) (law_22 hE hB)
theorem law_20 (hE : NXE l e) (hB : Bd g bndL) : HL p l e g D AL20 95 120 400 106000 := law_step hB ev_row21 (by decide) (by decide) (law_21 hE hB)
theorem law_19 (hE : NXE l e) (hB : Bd g bndL) : HL p l e g D AL19 94 114 390 105700 := law_step hB ev_row20 (by decide) (by decide) (law_20 hE hB)
theorem law_18 (hE : NXE l e) (hB : Bd g bndL) : HL p l e g D AL18 93 108 380 105400 := law_step hB ev_row19 (by decide) (by decide) (law_19 hE hB)
theorem law_17 (hE : NXE l e) (hB : Bd g bndL) : HL p l e g D AL17 92 102 370 105100 := law_step hB ev_row18 (by decide) (by decide) (law_18 hE hB)
theorem law_16 (hE : NXE l e) (hB : Bd g bndL) : HL p l e g D AL16 91 96 360 104800 := law_step hB ev_row17 (by decide) (by decide) (law_17 hE hB)
theorem law_15 (hE : NXE l e) (hB : Bd g bndL) : HL p l e g D AL15 90 90 350 104500 := law_step hB ev_row16 (by decide) (by decide) (law_16 hE hB)
theorem law_14 (hE : NXE l e) (hB : Bd g bndL) : HL p l e g D AL14 89 84 340 104200 := law_step hB ev_row15 (by decide) (by decide) (law_15 hE hB)
theorem law_13 (hE : NXE l e) (hB : Bd g bndL) : HL p l e g D AL13 88 78 330 103900 := law_step hB ev_row14 (by decide) (by decide) (law_14 hE hB)
theorem law_12 (hE : NXE l e) (hB : Bd g bndL) : HL p l e g D AL12 87 72 320 103600 := law_step hB ev_row13 (by decide) (by decide) (law_13 hE hB)
theorem law_11 (hE : NXE l e) (hB : Bd g bndL) : HL p l e g D AL11 86 66 310 103300 := law_step hB ev_row12 (by decide) (by decide) (law_12 hE hB)
theorem law_10 (hE : NXE l e) (hB : Bd g bndL) : HL p l e g D AL10 85 60 300 103000 := law_step hB ev_row11 (by decide) (by decide) (law_11 hE hB)
theorem law_9 (hE : NXE l e) (hB : Bd g bndL) : HL p l e g D AL9 84 54 290 102700 := law_step hB ev_row10 (by decide) (by decide) (law_10 hE hB)
theorem law_8 (hE : NXE l e) (hB : Bd g bndL) : HL p l e g D AL8 83 48 280 102400 := law_step hB ev_row9 (by decide) (by decide) (law_9 hE hB)
theorem law_7 (hE : NXE l e) (hB : Bd g bndL) : HL p l e g D AL7 82 42 270 102100 := law_step hB ev_row8 (by decide) (by decide) (law_8 hE hB)
theorem law_6 (hE : NXE l e) (hB : Bd g bndL) : HL p l e g D AL6 81 36 260 101800 := law_step hB ev_row7 (by decide) (by decide) (law_7 hE hB)
theorem law_5 (hE : NXE l e) (hB : Bd g bndL) : HL p l e g D AL5 80 30 250 101500 := law_step hB ev_row6 (by decide) (by decide) (law_6 hE hB)
theorem law_4 (hE : NXE l e) (hB : Bd g bndL) : HL p l e g D AL4 79 24 240 101200 := law_step hB ev_row5 (by decide) (by decide) (law_5 hE hB)
theorem law_3 (hE : NXE l e) (hB : Bd g bndL) : HL p l e g D AL3 78 18 230 100900 := law_step hB ev_row4 (by decide) (by decide) (law_4 hE hB)
theorem law_2 (hE : NXE l e) (hB : Bd g bndL) : HL p l e g D AL2 76 12 220 100600 := law_step hB ev_row3 (by decide) (by decide) (law_3 hE hB)
theorem law_1 (hE : NXE l e) (hB : Bd g bndL) : HL p l e g D AL1 76 6 210 100300 := law_step hB ev_row2 (by decide) (by decide) (law_2 hE hB)
theorem law_0 (hE : NXE l e) (hB : Bd g bndL) : HL p l e g D AL0 76 0 200 100000 := law_step hB ev_row1 (by decide) (by decide) (law_1 hE hB)
/-- from the law's entry -/
theorem law_start (hE : NXE l e) (hB : Bd g bndL) {s : State} {m : MethodId} {args : Array Value} {below : List Frame} {meth : Method} {c : Code} {A : Nat → Prop} {H : Heap} {locs : List Loc} {ls : Array Slot}
    (C : Ctx WB AD SR FW g 156 md_L_law 200 0 p l room_1 s m args meth c A) (hR : HR g D A s [] [] [] H locs) (hL : LR g [] (mL md_L_law) [(0, .inr (.inr (.inr (.inr 2))))] ls) (hr : below.length + 2049 = (e.platform.limitsFor 0).1) (hnn : nonote below = true) (hNV : NXV s) : W p l e room_1 s m args below meth c H locs 0 0 (Dead p.tables e below) (F0 m 0 ls []) := by
  obtain ⟨ah', u', v', hrun, hu, hv, hn⟩ := ckL_in ev_law
  refine run_ok (sok_tfsB (STP := (alsL 0, [])) (sokL (l := l) (D := D) hB) (fun mt hmt => stp_ok (stpAt_ok (ev := evL) (sl := 156) (fun _ => rfl) (by decide) hB (fun h => absurd h (by decide)) mt hmt))) 60000 200 0 0 [(0, .inr (.inr (.inr (.inr 2))))] [] [] 0 _ (md_L_law, tl_L_law) tb_L_law hrun p e room_1 s m args below meth c H locs 0 0 _ A [] [] ls [] C hR rfl hL F2_0 (show 0 + u' ≤ room_1.cells from Nat.le_trans (show 0 + u' ≤ 200 by omega) (by decide)) (show 0 + v' ≤ room_1.slots from Nat.le_trans (show 0 + v' ≤ 100000 by omega) (by decide)) ?_
  intro ρ' tys' H' locs' ls' st' k n hE' hR' hft hF hc9 hk9 hn9
  have hk9 : k ≤ 0 + u' := hk9
  have hn9 : n ≤ 0 + v' := hn9
  have hF : ls'.size = mL md_L_law ∧ ((6 < 3 ∧ st' = [] ∧ THK WB AD SR md_L_law 23 6) ∨ (6 = 6 ∧ LR g ρ' (mL md_L_law) (alsL 0) ls' ∧ F2 (vrel g ρ') [] st')) := hF
  rcases hF.2 with ⟨h9, -⟩ | ⟨-, hL', hS'⟩
  · omega
  · rw [F2_nil hS']
    exact law_0 hE hB s m args below meth c A ρ' tys' H' locs' ls' k n C (HR_norm hn hR') hft hL' (by omega) (by omega) hr hnn hNV
end LAW
