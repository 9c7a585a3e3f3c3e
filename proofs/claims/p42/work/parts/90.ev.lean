/-! bags and rows, case by case -/
noncomputable def bM (d0 d1 d2 : Nat) : Nat := wrX (wrX (wrX (wrX (wrX (wrX INV 2171 0) 2172 0) 2173 0) 2171 d0) 2172 d1) 2173 d2
noncomputable def bMm (d0 d1 d2 : Nat) : Nat := Nat.land (bM d0 d1 d2) MB
def smN (d0 d1 d2 : Nat) : Nat := Nat.add (Nat.add d0 d1) d2
def wyN (d0 d1 d2 : Nat) : Nat := Nat.mul (Nat.mul (Nat.add d0 1) (Nat.add d1 1)) (Nat.add d2 1)
noncomputable def opN (hs : Nat) : Nat := @Nat.rec (fun _ => Nat) 10 (fun _ _ => 8) hs
noncomputable def anB (a b : Bool) : Bool := @Bool.rec (fun _ => Bool) false b a
noncomputable def evb (d0 d1 d2 : Nat) : Bool := dB 2 (fun hs => fKB (smN d0 d1 d2) (fun x4 => fKB (wyN d0 d1 d2) (fun x5 => fKB (bM d0 d1 d2) (fun M => m_bagsB x4 x5 hs M leafB))))
/-- behind the first half of rows -/
noncomputable def mid (d0 d1 d2 hs x4 x5 x6 M : Nat) : Bool := anB (Nat.beq x4 (smN d0 d1 d2)) (anB (Nat.beq x5 hs) (anB (Nat.beq x6 (opN hs)) (Nat.beq (Nat.land M MB) (bMm d0 d1 d2))))
noncomputable def evr (d0 d1 d2 hs : Nat) : Bool := fKB (smN d0 d1 d2) (fun x4 => fKB (bM d0 d1 d2) (fun M => m_rowsB (mid d0 d1 d2 hs) x4 hs M leafB))
noncomputable def evs (d0 d1 d2 hs : Nat) : Bool := fKB (smN d0 d1 d2) (fun x4 => fKB (opN hs) (fun x6 => fKB (bMm d0 d1 d2) (fun M => m_rowsC x4 hs x6 M leafB)))
