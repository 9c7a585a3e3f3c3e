/-! sums, 1 -/
set_option maxRecDepth 100000 in
theorem ev_k1_0 : dB 4 (fun b => dB 4 (fun c => m_law1 0 b c INV)) = true := by decide +kernel
set_option maxRecDepth 100000 in
theorem ev_k1_1 : dB 4 (fun b => dB 4 (fun c => m_law1 1 b c INV)) = true := by decide +kernel
set_option maxRecDepth 100000 in
theorem ev_k1_2 : dB 4 (fun b => dB 4 (fun c => m_law1 2 b c INV)) = true := by decide +kernel
set_option maxRecDepth 100000 in
theorem ev_k1_3 : dB 4 (fun b => dB 4 (fun c => m_law1 3 b c INV)) = true := by decide +kernel
