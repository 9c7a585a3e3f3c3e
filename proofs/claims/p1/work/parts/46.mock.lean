theorem RT_ok : F2 RowsOK TB TF := sorry
theorem all_tr : ∀ m, m < 64 → ∃ ts, chk m 200 ts FULL6 = some [] := sorry
theorem shs : ∀ sl, sl < 6 → ∀ m, m < 64 → okS (go2 (FULL6, m, sl)) = true := sorry
