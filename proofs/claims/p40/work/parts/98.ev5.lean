/-! more of them -/
theorem ev_leaf3 : (List.range 9).all (fun j => ckR 32 (28 + j) 57 (29 + j) 95) = true := by decide +kernel
theorem ev_mid3 : (List.range 9).all (fun j => (List.range 19).all (fun i => ckR 2 (28 + j) (tN i) (28 + j) (tN i) && ckB (28 + j) (tN i) (tN (i + 1)))) = true := by decide +kernel
