/-! the pieces, by the kernel -/
theorem ev_rd : ckRd = true := by decide +kernel
theorem ev_l0 : ckR 32 0 99 1 95 = true := by decide +kernel
theorem ev_f : ckF 54 (tN 16) = true := by decide +kernel
