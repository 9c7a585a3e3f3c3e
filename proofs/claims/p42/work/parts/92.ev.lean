/-! rows, case by case -/
set_option maxRecDepth 100000 in
theorem ev_r_0000 : evr 0 0 0 0 = true := by decide +kernel
set_option maxRecDepth 100000 in
theorem ev_r_0001 : evr 0 0 0 1 = true := by decide +kernel
set_option maxRecDepth 100000 in
theorem ev_r_0010 : evr 0 0 1 0 = true := by decide +kernel
set_option maxRecDepth 100000 in
theorem ev_r_0011 : evr 0 0 1 1 = true := by decide +kernel
set_option maxRecDepth 100000 in
theorem ev_r_0100 : evr 0 1 0 0 = true := by decide +kernel
set_option maxRecDepth 100000 in
theorem ev_r_0101 : evr 0 1 0 1 = true := by decide +kernel
set_option maxRecDepth 100000 in
theorem ev_r_0110 : evr 0 1 1 0 = true := by decide +kernel
set_option maxRecDepth 100000 in
theorem ev_r_0111 : evr 0 1 1 1 = true := by decide +kernel
set_option maxRecDepth 100000 in
theorem ev_r_0200 : evr 0 2 0 0 = true := by decide +kernel
set_option maxRecDepth 100000 in
theorem ev_r_0201 : evr 0 2 0 1 = true := by decide +kernel
set_option maxRecDepth 100000 in
theorem ev_r_0210 : evr 0 2 1 0 = true := by decide +kernel
set_option maxRecDepth 100000 in
theorem ev_r_0211 : evr 0 2 1 1 = true := by decide +kernel
set_option maxRecDepth 100000 in
theorem ev_r_1000 : evr 1 0 0 0 = true := by decide +kernel
set_option maxRecDepth 100000 in
theorem ev_r_1001 : evr 1 0 0 1 = true := by decide +kernel
set_option maxRecDepth 100000 in
theorem ev_r_1010 : evr 1 0 1 0 = true := by decide +kernel
set_option maxRecDepth 100000 in
theorem ev_r_1011 : evr 1 0 1 1 = true := by decide +kernel
set_option maxRecDepth 100000 in
theorem ev_r_1100 : evr 1 1 0 0 = true := by decide +kernel
set_option maxRecDepth 100000 in
theorem ev_r_1101 : evr 1 1 0 1 = true := by decide +kernel
set_option maxRecDepth 100000 in
theorem ev_r_1110 : evr 1 1 1 0 = true := by decide +kernel
set_option maxRecDepth 100000 in
theorem ev_r_1111 : evr 1 1 1 1 = true := by decide +kernel
set_option maxRecDepth 100000 in
theorem ev_r_1200 : evr 1 2 0 0 = true := by decide +kernel
set_option maxRecDepth 100000 in
theorem ev_r_1201 : evr 1 2 0 1 = true := by decide +kernel
set_option maxRecDepth 100000 in
theorem ev_r_1210 : evr 1 2 1 0 = true := by decide +kernel
set_option maxRecDepth 100000 in
theorem ev_r_1211 : evr 1 2 1 1 = true := by decide +kernel
set_option maxRecDepth 100000 in
theorem ev_r_2000 : evr 2 0 0 0 = true := by decide +kernel
set_option maxRecDepth 100000 in
theorem ev_r_2001 : evr 2 0 0 1 = true := by decide +kernel
set_option maxRecDepth 100000 in
theorem ev_r_2010 : evr 2 0 1 0 = true := by decide +kernel
set_option maxRecDepth 100000 in
theorem ev_r_2011 : evr 2 0 1 1 = true := by decide +kernel
set_option maxRecDepth 100000 in
theorem ev_r_2100 : evr 2 1 0 0 = true := by decide +kernel
set_option maxRecDepth 100000 in
theorem ev_r_2101 : evr 2 1 0 1 = true := by decide +kernel
set_option maxRecDepth 100000 in
theorem ev_r_2110 : evr 2 1 1 0 = true := by decide +kernel
set_option maxRecDepth 100000 in
theorem ev_r_2111 : evr 2 1 1 1 = true := by decide +kernel
set_option maxRecDepth 100000 in
theorem ev_r_2200 : evr 2 2 0 0 = true := by decide +kernel
set_option maxRecDepth 100000 in
theorem ev_r_2201 : evr 2 2 0 1 = true := by decide +kernel
set_option maxRecDepth 100000 in
theorem ev_r_2210 : evr 2 2 1 0 = true := by decide +kernel
set_option maxRecDepth 100000 in
theorem ev_r_2211 : evr 2 2 1 1 = true := by decide +kernel
