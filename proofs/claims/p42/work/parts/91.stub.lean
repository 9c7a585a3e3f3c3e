/-! stubs -/
theorem ev_b_000 : evb 0 0 0 = true := sorry
theorem ev_b_001 : evb 0 0 1 = true := sorry
theorem ev_b_010 : evb 0 1 0 = true := sorry
theorem ev_b_011 : evb 0 1 1 = true := sorry
theorem ev_b_020 : evb 0 2 0 = true := sorry
theorem ev_b_021 : evb 0 2 1 = true := sorry
theorem ev_b_100 : evb 1 0 0 = true := sorry
theorem ev_b_101 : evb 1 0 1 = true := sorry
theorem ev_b_110 : evb 1 1 0 = true := sorry
theorem ev_b_111 : evb 1 1 1 = true := sorry
theorem ev_b_120 : evb 1 2 0 = true := sorry
theorem ev_b_121 : evb 1 2 1 = true := sorry
theorem ev_b_200 : evb 2 0 0 = true := sorry
theorem ev_b_201 : evb 2 0 1 = true := sorry
theorem ev_b_210 : evb 2 1 0 = true := sorry
theorem ev_b_211 : evb 2 1 1 = true := sorry
theorem ev_b_220 : evb 2 2 0 = true := sorry
theorem ev_b_221 : evb 2 2 1 = true := sorry
theorem ev_r_0000 : evr 0 0 0 0 = true := sorry
theorem ev_r_0001 : evr 0 0 0 1 = true := sorry
theorem ev_r_0010 : evr 0 0 1 0 = true := sorry
theorem ev_r_0011 : evr 0 0 1 1 = true := sorry
theorem ev_r_0100 : evr 0 1 0 0 = true := sorry
theorem ev_r_0101 : evr 0 1 0 1 = true := sorry
theorem ev_r_0110 : evr 0 1 1 0 = true := sorry
theorem ev_r_0111 : evr 0 1 1 1 = true := sorry
theorem ev_r_0200 : evr 0 2 0 0 = true := sorry
theorem ev_r_0201 : evr 0 2 0 1 = true := sorry
theorem ev_r_0210 : evr 0 2 1 0 = true := sorry
theorem ev_r_0211 : evr 0 2 1 1 = true := sorry
theorem ev_r_1000 : evr 1 0 0 0 = true := sorry
theorem ev_r_1001 : evr 1 0 0 1 = true := sorry
theorem ev_r_1010 : evr 1 0 1 0 = true := sorry
theorem ev_r_1011 : evr 1 0 1 1 = true := sorry
theorem ev_r_1100 : evr 1 1 0 0 = true := sorry
theorem ev_r_1101 : evr 1 1 0 1 = true := sorry
theorem ev_r_1110 : evr 1 1 1 0 = true := sorry
theorem ev_r_1111 : evr 1 1 1 1 = true := sorry
theorem ev_r_1200 : evr 1 2 0 0 = true := sorry
theorem ev_r_1201 : evr 1 2 0 1 = true := sorry
theorem ev_r_1210 : evr 1 2 1 0 = true := sorry
theorem ev_r_1211 : evr 1 2 1 1 = true := sorry
theorem ev_r_2000 : evr 2 0 0 0 = true := sorry
theorem ev_r_2001 : evr 2 0 0 1 = true := sorry
theorem ev_r_2010 : evr 2 0 1 0 = true := sorry
theorem ev_r_2011 : evr 2 0 1 1 = true := sorry
theorem ev_r_2100 : evr 2 1 0 0 = true := sorry
theorem ev_r_2101 : evr 2 1 0 1 = true := sorry
theorem ev_r_2110 : evr 2 1 1 0 = true := sorry
theorem ev_r_2111 : evr 2 1 1 1 = true := sorry
theorem ev_r_2200 : evr 2 2 0 0 = true := sorry
theorem ev_r_2201 : evr 2 2 0 1 = true := sorry
theorem ev_r_2210 : evr 2 2 1 0 = true := sorry
theorem ev_r_2211 : evr 2 2 1 1 = true := sorry
theorem ev_s_0010 : evs 0 0 1 0 = true := sorry
theorem ev_s_0011 : evs 0 0 1 1 = true := sorry
theorem ev_s_0100 : evs 0 1 0 0 = true := sorry
theorem ev_s_0101 : evs 0 1 0 1 = true := sorry
theorem ev_s_0110 : evs 0 1 1 0 = true := sorry
theorem ev_s_0111 : evs 0 1 1 1 = true := sorry
theorem ev_s_0200 : evs 0 2 0 0 = true := sorry
theorem ev_s_0201 : evs 0 2 0 1 = true := sorry
theorem ev_s_0210 : evs 0 2 1 0 = true := sorry
theorem ev_s_0211 : evs 0 2 1 1 = true := sorry
theorem ev_s_1000 : evs 1 0 0 0 = true := sorry
theorem ev_s_1001 : evs 1 0 0 1 = true := sorry
theorem ev_s_1010 : evs 1 0 1 0 = true := sorry
theorem ev_s_1011 : evs 1 0 1 1 = true := sorry
theorem ev_s_1100 : evs 1 1 0 0 = true := sorry
theorem ev_s_1101 : evs 1 1 0 1 = true := sorry
theorem ev_s_1110 : evs 1 1 1 0 = true := sorry
theorem ev_s_1111 : evs 1 1 1 1 = true := sorry
theorem ev_s_1200 : evs 1 2 0 0 = true := sorry
theorem ev_s_1201 : evs 1 2 0 1 = true := sorry
theorem ev_s_1210 : evs 1 2 1 0 = true := sorry
theorem ev_s_1211 : evs 1 2 1 1 = true := sorry
theorem ev_s_2000 : evs 2 0 0 0 = true := sorry
theorem ev_s_2001 : evs 2 0 0 1 = true := sorry
theorem ev_s_2010 : evs 2 0 1 0 = true := sorry
theorem ev_s_2011 : evs 2 0 1 1 = true := sorry
theorem ev_s_2100 : evs 2 1 0 0 = true := sorry
theorem ev_s_2101 : evs 2 1 0 1 = true := sorry
theorem ev_s_2110 : evs 2 1 1 0 = true := sorry
theorem ev_s_2111 : evs 2 1 1 1 = true := sorry
theorem ev_s_2200 : evs 2 2 0 0 = true := sorry
theorem ev_s_2201 : evs 2 2 0 1 = true := sorry
theorem ev_s_2210 : evs 2 2 1 0 = true := sorry
theorem ev_s_2211 : evs 2 2 1 1 = true := sorry
theorem ev_k0_0 : dB 4 (fun b => dB 4 (fun c => m_law0 0 b c INV)) = true := sorry
theorem ev_k0_1 : dB 4 (fun b => dB 4 (fun c => m_law0 1 b c INV)) = true := sorry
theorem ev_k0_2 : dB 4 (fun b => dB 4 (fun c => m_law0 2 b c INV)) = true := sorry
theorem ev_k0_3 : dB 4 (fun b => dB 4 (fun c => m_law0 3 b c INV)) = true := sorry
theorem ev_k1_0 : dB 4 (fun b => dB 4 (fun c => m_law1 0 b c INV)) = true := sorry
theorem ev_k1_1 : dB 4 (fun b => dB 4 (fun c => m_law1 1 b c INV)) = true := sorry
theorem ev_k1_2 : dB 4 (fun b => dB 4 (fun c => m_law1 2 b c INV)) = true := sorry
theorem ev_k1_3 : dB 4 (fun b => dB 4 (fun c => m_law1 3 b c INV)) = true := sorry
