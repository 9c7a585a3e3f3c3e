/-! the class's reduce at the script's world: by the kernel -/
def isRd (o : RN) (t : Nat) : Bool := match o with
  | some (t', _) => Nat.beq t' t
  | none => false
theorem isRd_in {o : RN} {t : Nat} (h : isRd o t = true) : ∃ M, o = some (t, M) := by
  match o, h with
  | some (t', M), h => exact ⟨M, by rw [Nat.eq_of_beq_eq_true h]⟩
theorem red_ev : isRd (fK INIT (fun M => m_X10_reduce M)) 4294967296 = true := by decide +kernel
