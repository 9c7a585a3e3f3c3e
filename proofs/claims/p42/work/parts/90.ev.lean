/-! bags and rows, case by case -/
noncomputable def bM (d0 d1 d2 : Nat) : Nat := wrX (wrX (wrX (wrX (wrX (wrX INV 2171 0) 2172 0) 2173 0) 2171 d0) 2172 d1) 2173 d2
def smN (d0 d1 d2 : Nat) : Nat := Nat.add (Nat.add d0 d1) d2
def wyN (d0 d1 d2 : Nat) : Nat := Nat.mul (Nat.mul (Nat.add d0 1) (Nat.add d1 1)) (Nat.add d2 1)
noncomputable def evb (d0 d1 d2 : Nat) : Bool := dB 2 (fun hs => fKB (smN d0 d1 d2) (fun x4 => fKB (wyN d0 d1 d2) (fun x5 => fKB (bM d0 d1 d2) (fun M => m_bagsB x4 x5 hs M leafB))))
noncomputable def evr (d0 d1 d2 : Nat) : Bool := dB 2 (fun hs => fKB (smN d0 d1 d2) (fun x4 => fKB (bM d0 d1 d2) (fun M => m_rowsB x4 hs M leafB)))
