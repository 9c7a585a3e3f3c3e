/-! more of them -/
theorem ev_leaf4 : (List.range 9).all (fun j => ckR 32 (37 + j) 57 (38 + j) 95) = true := by decide +kernel
theorem ev_mid4 : (List.range 9).all (fun j => (List.range 19).all (fun i => ckR 2 (37 + j) (tN i) (37 + j) (tN i) && ckB (37 + j) (tN i) (tN (i + 1)))) = true := by decide +kernel
