/-! sums, 0 -/
set_option maxRecDepth 100000 in
theorem ev_k0_0 : dB 4 (fun b => dB 4 (fun c => m_law0 0 b c INV)) = true := by decide +kernel
set_option maxRecDepth 100000 in
theorem ev_k0_1 : dB 4 (fun b => dB 4 (fun c => m_law0 1 b c INV)) = true := by decide +kernel
set_option maxRecDepth 100000 in
theorem ev_k0_2 : dB 4 (fun b => dB 4 (fun c => m_law0 2 b c INV)) = true := by decide +kernel
set_option maxRecDepth 100000 in
theorem ev_k0_3 : dB 4 (fun b => dB 4 (fun c => m_law0 3 b c INV)) = true := by decide +kernel
