/-! the law's last row: the class's reduce, and then the reference's is called -/
def selM : List Nat := [61, 62, 63, 64, 65, 66, 67, 68, 69, 70, 71, 72, 73, 74, 75, 76, 77, 78, 79, 80, 81, 82, 83, 84, 85, 86, 87, 88, 89, 90, 91, 92, 93, 94, 95, 96, 97, 98, 99, 100, 101, 102, 103, 104, 105, 106, 107, 108, 109, 110, 111, 112, 113, 114, 115, 116, 117, 118, 119, 120, 121, 122, 123, 124, 125, 126, 127, 128, 129, 130, 131, 132, 133, 134, 135, 136, 137, 138, 139, 140, 141, 142, 143, 144, 145, 146, 147, 148, 149, 150, 151, 152, 153, 154, 155, 156, 157, 158, 159, 160]
def stM : List Nat := [50, 51, 52, 53, 54, 55, 56, 57, 58, 59, 60, 61, 62, 63, 64, 65, 66, 67, 68, 69, 70, 71, 72, 73, 74, 75, 76, 77, 78, 79, 80, 81, 82, 83, 84, 85, 86, 87, 88, 89, 90, 91, 92, 93, 94, 95, 96, 97, 98, 99]
def ckM (o : Option Fin9) : Bool := match o with
  | some (9, pc, .inl 0, ah', nt', u', v') => Nat.beq pc 770 && (Nat.ble u' 10 && (Nat.ble v' 300 && (isObj ah' 18 [rf 61] && (wS (sfl selM) (sfl stM) ah' selM NM && (stM.all (fun t => Nat.blt t nt') && lS (sfl selM) [rf 61] [rf 0])))))
  | _ => false
theorem ckM_in {o : Option Fin9} (h : ckM o = true) : ∃ ah' nt' u' v', o = some (9, 770, .inl 0, ah', nt', u', v') ∧ u' ≤ 10 ∧ v' ≤ 300 ∧ isObj ah' 18 [rf 61] = true ∧ wS (sfl selM) (sfl stM) ah' selM NM = true ∧ stM.all (fun t => Nat.blt t nt') = true ∧ lS (sfl selM) [rf 61] [rf 0] = true := by
  unfold ckM at h
  split at h
  · have h1 := and_cases h
    have h2 := and_cases h1.2
    have h3 := and_cases h2.2
    have h4 := and_cases h3.2
    have h5 := and_cases h4.2
    have h6 := and_cases h5.2
    have e := Nat.eq_of_beq_eq_true h1.1
    subst e
    exact ⟨_, _, _, _, rfl, Nat.le_of_ble_eq_true h2.1, Nat.le_of_ble_eq_true h3.1, h4.1, h5.1, h6.1, h6.2⟩
  · cases h
set_option maxRecDepth 100000 in
theorem ev_last : ckM (run tfM evL 60000 200 0 23 (alsL 150) [] AL25 100) = true := by decide +kernel
theorem selM_ris : risF 0 selM = true := by decide +kernel
theorem stM_len : stM.length = nK := by decide +kernel
