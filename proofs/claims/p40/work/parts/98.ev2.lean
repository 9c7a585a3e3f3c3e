/-! more of them -/
theorem ev_leaf0 : (List.range 9).all (fun j => ckR 32 (1 + j) 57 (2 + j) 95) = true := by decide +kernel
theorem ev_mid0 : (List.range 9).all (fun j => (List.range 19).all (fun i => ckR 2 (1 + j) (tN i) (1 + j) (tN i) && ckB (1 + j) (tN i) (tN (i + 1)))) = true := by decide +kernel
