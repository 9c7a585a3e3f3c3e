/-! rows, the second halves -/
set_option maxRecDepth 100000 in
theorem ev_s_0010 : evs 0 0 1 0 = true := by decide +kernel
set_option maxRecDepth 100000 in
theorem ev_s_0011 : evs 0 0 1 1 = true := by decide +kernel
set_option maxRecDepth 100000 in
theorem ev_s_0100 : evs 0 1 0 0 = true := by decide +kernel
set_option maxRecDepth 100000 in
theorem ev_s_0101 : evs 0 1 0 1 = true := by decide +kernel
set_option maxRecDepth 100000 in
theorem ev_s_0110 : evs 0 1 1 0 = true := by decide +kernel
set_option maxRecDepth 100000 in
theorem ev_s_0111 : evs 0 1 1 1 = true := by decide +kernel
set_option maxRecDepth 100000 in
theorem ev_s_0200 : evs 0 2 0 0 = true := by decide +kernel
set_option maxRecDepth 100000 in
theorem ev_s_0201 : evs 0 2 0 1 = true := by decide +kernel
set_option maxRecDepth 100000 in
theorem ev_s_0210 : evs 0 2 1 0 = true := by decide +kernel
set_option maxRecDepth 100000 in
theorem ev_s_0211 : evs 0 2 1 1 = true := by decide +kernel
set_option maxRecDepth 100000 in
theorem ev_s_1000 : evs 1 0 0 0 = true := by decide +kernel
set_option maxRecDepth 100000 in
theorem ev_s_1001 : evs 1 0 0 1 = true := by decide +kernel
set_option maxRecDepth 100000 in
theorem ev_s_1010 : evs 1 0 1 0 = true := by decide +kernel
set_option maxRecDepth 100000 in
theorem ev_s_1011 : evs 1 0 1 1 = true := by decide +kernel
set_option maxRecDepth 100000 in
theorem ev_s_1100 : evs 1 1 0 0 = true := by decide +kernel
set_option maxRecDepth 100000 in
theorem ev_s_1101 : evs 1 1 0 1 = true := by decide +kernel
set_option maxRecDepth 100000 in
theorem ev_s_1110 : evs 1 1 1 0 = true := by decide +kernel
set_option maxRecDepth 100000 in
theorem ev_s_1111 : evs 1 1 1 1 = true := by decide +kernel
set_option maxRecDepth 100000 in
theorem ev_s_1200 : evs 1 2 0 0 = true := by decide +kernel
set_option maxRecDepth 100000 in
theorem ev_s_1201 : evs 1 2 0 1 = true := by decide +kernel
set_option maxRecDepth 100000 in
theorem ev_s_1210 : evs 1 2 1 0 = true := by decide +kernel
set_option maxRecDepth 100000 in
theorem ev_s_1211 : evs 1 2 1 1 = true := by decide +kernel
set_option maxRecDepth 100000 in
theorem ev_s_2000 : evs 2 0 0 0 = true := by decide +kernel
set_option maxRecDepth 100000 in
theorem ev_s_2001 : evs 2 0 0 1 = true := by decide +kernel
set_option maxRecDepth 100000 in
theorem ev_s_2010 : evs 2 0 1 0 = true := by decide +kernel
set_option maxRecDepth 100000 in
theorem ev_s_2011 : evs 2 0 1 1 = true := by decide +kernel
set_option maxRecDepth 100000 in
theorem ev_s_2100 : evs 2 1 0 0 = true := by decide +kernel
set_option maxRecDepth 100000 in
theorem ev_s_2101 : evs 2 1 0 1 = true := by decide +kernel
set_option maxRecDepth 100000 in
theorem ev_s_2110 : evs 2 1 1 0 = true := by decide +kernel
set_option maxRecDepth 100000 in
theorem ev_s_2111 : evs 2 1 1 1 = true := by decide +kernel
set_option maxRecDepth 100000 in
theorem ev_s_2200 : evs 2 2 0 0 = true := by decide +kernel
set_option maxRecDepth 100000 in
theorem ev_s_2201 : evs 2 2 0 1 = true := by decide +kernel
set_option maxRecDepth 100000 in
theorem ev_s_2210 : evs 2 2 1 0 = true := by decide +kernel
set_option maxRecDepth 100000 in
theorem ev_s_2211 : evs 2 2 1 1 = true := by decide +kernel
