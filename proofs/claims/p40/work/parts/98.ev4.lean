/-! more of them -/
theorem ev_leaf2 : (List.range 9).all (fun j => ckR 32 (19 + j) 57 (20 + j) 95) = true := by decide +kernel
theorem ev_mid2 : (List.range 9).all (fun j => (List.range 19).all (fun i => ckR 2 (19 + j) (tN i) (19 + j) (tN i) && ckB (19 + j) (tN i) (tN (i + 1)))) = true := by decide +kernel
