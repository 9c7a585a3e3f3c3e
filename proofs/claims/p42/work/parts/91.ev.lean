/-! bags, case by case -/
set_option maxRecDepth 100000 in
theorem ev_b_000 : evb 0 0 0 = true := by decide +kernel
set_option maxRecDepth 100000 in
theorem ev_b_001 : evb 0 0 1 = true := by decide +kernel
set_option maxRecDepth 100000 in
theorem ev_b_010 : evb 0 1 0 = true := by decide +kernel
set_option maxRecDepth 100000 in
theorem ev_b_011 : evb 0 1 1 = true := by decide +kernel
set_option maxRecDepth 100000 in
theorem ev_b_020 : evb 0 2 0 = true := by decide +kernel
set_option maxRecDepth 100000 in
theorem ev_b_021 : evb 0 2 1 = true := by decide +kernel
set_option maxRecDepth 100000 in
theorem ev_b_100 : evb 1 0 0 = true := by decide +kernel
set_option maxRecDepth 100000 in
theorem ev_b_101 : evb 1 0 1 = true := by decide +kernel
set_option maxRecDepth 100000 in
theorem ev_b_110 : evb 1 1 0 = true := by decide +kernel
set_option maxRecDepth 100000 in
theorem ev_b_111 : evb 1 1 1 = true := by decide +kernel
set_option maxRecDepth 100000 in
theorem ev_b_120 : evb 1 2 0 = true := by decide +kernel
set_option maxRecDepth 100000 in
theorem ev_b_121 : evb 1 2 1 = true := by decide +kernel
set_option maxRecDepth 100000 in
theorem ev_b_200 : evb 2 0 0 = true := by decide +kernel
set_option maxRecDepth 100000 in
theorem ev_b_201 : evb 2 0 1 = true := by decide +kernel
set_option maxRecDepth 100000 in
theorem ev_b_210 : evb 2 1 0 = true := by decide +kernel
set_option maxRecDepth 100000 in
theorem ev_b_211 : evb 2 1 1 = true := by decide +kernel
set_option maxRecDepth 100000 in
theorem ev_b_220 : evb 2 2 0 = true := by decide +kernel
set_option maxRecDepth 100000 in
theorem ev_b_221 : evb 2 2 1 = true := by decide +kernel
