/-! more of them -/
theorem ev_leaf1 : (List.range 9).all (fun j => ckR 32 (10 + j) 57 (11 + j) 95) = true := by decide +kernel
theorem ev_mid1 : (List.range 9).all (fun j => (List.range 19).all (fun i => ckR 2 (10 + j) (tN i) (10 + j) (tN i) && ckB (10 + j) (tN i) (tN (i + 1)))) = true := by decide +kernel
