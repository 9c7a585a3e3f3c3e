/-! more of them -/
theorem ev_leaf5 : (List.range 9).all (fun j => ckR 32 (46 + j) 57 (47 + j) 95) = true := by decide +kernel
theorem ev_mid5 : (List.range 9).all (fun j => (List.range 19).all (fun i => ckR 2 (46 + j) (tN i) (46 + j) (tN i) && ckB (46 + j) (tN i) (tN (i + 1)))) = true := by decide +kernel
