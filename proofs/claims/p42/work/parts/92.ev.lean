/-! rows, case by case -/
set_option maxRecDepth 100000 in
theorem ev_r_000 : evr 0 0 0 = true := by decide +kernel
set_option maxRecDepth 100000 in
theorem ev_r_001 : evr 0 0 1 = true := by decide +kernel
set_option maxRecDepth 100000 in
theorem ev_r_010 : evr 0 1 0 = true := by decide +kernel
set_option maxRecDepth 100000 in
theorem ev_r_011 : evr 0 1 1 = true := by decide +kernel
set_option maxRecDepth 100000 in
theorem ev_r_020 : evr 0 2 0 = true := by decide +kernel
set_option maxRecDepth 100000 in
theorem ev_r_021 : evr 0 2 1 = true := by decide +kernel
set_option maxRecDepth 100000 in
theorem ev_r_100 : evr 1 0 0 = true := by decide +kernel
set_option maxRecDepth 100000 in
theorem ev_r_101 : evr 1 0 1 = true := by decide +kernel
set_option maxRecDepth 100000 in
theorem ev_r_110 : evr 1 1 0 = true := by decide +kernel
set_option maxRecDepth 100000 in
theorem ev_r_111 : evr 1 1 1 = true := by decide +kernel
set_option maxRecDepth 100000 in
theorem ev_r_120 : evr 1 2 0 = true := by decide +kernel
set_option maxRecDepth 100000 in
theorem ev_r_121 : evr 1 2 1 = true := by decide +kernel
set_option maxRecDepth 100000 in
theorem ev_r_200 : evr 2 0 0 = true := by decide +kernel
set_option maxRecDepth 100000 in
theorem ev_r_201 : evr 2 0 1 = true := by decide +kernel
set_option maxRecDepth 100000 in
theorem ev_r_210 : evr 2 1 0 = true := by decide +kernel
set_option maxRecDepth 100000 in
theorem ev_r_211 : evr 2 1 1 = true := by decide +kernel
set_option maxRecDepth 100000 in
theorem ev_r_220 : evr 2 2 0 = true := by decide +kernel
set_option maxRecDepth 100000 in
theorem ev_r_221 : evr 2 2 1 = true := by decide +kernel
