theorem r_X2_partAt_3 : IOK WB AD SR FW TB md_X2_partAt 3 (.iload_n 1, 0, 0, 0, []) := io_plain (by decide +kernel) rfl
theorem r_X2_partAt_4 : IOK WB AD SR FW TB md_X2_partAt 4 (.iconst 4, 0, 0, 0, []) := io_plain (by decide +kernel) rfl
theorem r_X2_partAt_5 : IOK WB AD SR FW TB md_X2_partAt 5 (.imul, 0, 0, 0, []) := io_plain (by decide +kernel) rfl
theorem r_X2_partAt_6 : IOK WB AD SR FW TB md_X2_partAt 6 (.iload_n 2, 0, 0, 0, []) := io_plain (by decide +kernel) rfl
theorem r_X2_partAt_7 : IOK WB AD SR FW TB md_X2_partAt 7 (.iadd, 0, 0, 0, []) := io_plain (by decide +kernel) rfl
theorem r_X2_partAt_8 : IOK WB AD SR FW TB md_X2_partAt 8 (.bipush 20, 0, 0, 0, []) := io_plain (by decide +kernel) rfl
theorem r_X2_partAt_10 : IOK WB AD SR FW TB md_X2_partAt 10 (.imul, 0, 0, 0, []) := io_plain (by decide +kernel) rfl
theorem r_X2_partAt_11 : IOK WB AD SR FW TB md_X2_partAt 11 (.iadd, 0, 0, 0, []) := io_plain (by decide +kernel) rfl
theorem r_X2_partAt_12 : IOK WB AD SR FW TB md_X2_partAt 12 (.ireturn, 0, 0, 0, []) := io_plain (by decide +kernel) rfl
set_option maxRecDepth 100000 in
theorem ok_X2_partAt_0 : ∀ q ∈ tl_X2_partAt, IOK WB AD SR FW TB md_X2_partAt q.1 q.2 := List.forall_mem_cons.mpr ⟨r_X2_partAt_0, List.forall_mem_cons.mpr ⟨r_X2_partAt_3, List.forall_mem_cons.mpr ⟨r_X2_partAt_4, List.forall_mem_cons.mpr ⟨r_X2_partAt_5, List.forall_mem_cons.mpr ⟨r_X2_partAt_6, List.forall_mem_cons.mpr ⟨r_X2_partAt_7, List.forall_mem_cons.mpr ⟨r_X2_partAt_8, List.forall_mem_cons.mpr ⟨r_X2_partAt_10, List.forall_mem_cons.mpr ⟨r_X2_partAt_11, List.forall_mem_cons.mpr ⟨r_X2_partAt_12, fun _ h => absurd h List.not_mem_nil⟩⟩⟩⟩⟩⟩⟩⟩⟩⟩
set_option maxRecDepth 100000 in
theorem tq_X2_partAt_0 : tf_X2_partAt = tl_X2_partAt.map (fun q => (q.1, stepOf NPf md_X2_partAt q.2)) := rfl
theorem ro_X2_partAt : RowsOK (md_X2_partAt, tl_X2_partAt) tf_X2_partAt := ⟨tq_X2_partAt_0, ok_X2_partAt_0⟩
theorem r_X17_laid_0 : IOK WB AD SR FW TB md_X17_laid 0 (.iload_n 1, 0, 0, 0, []) := io_plain (by decide +kernel) rfl
theorem r_X17_laid_1 : IOK WB AD SR FW TB md_X17_laid 1 (.istore 5, 0, 0, 0, []) := io_plain (by decide +kernel) rfl
theorem r_X17_laid_3 : IOK WB AD SR FW TB md_X17_laid 3 (.iconst 0, 0, 0, 0, []) := io_plain (by decide +kernel) rfl
theorem r_X17_laid_4 : IOK WB AD SR FW TB md_X17_laid 4 (.istore 6, 0, 0, 0, []) := io_plain (by decide +kernel) rfl
theorem r_X17_laid_6 : IOK WB AD SR FW TB md_X17_laid 6 (.iload 6, 0, 0, 0, []) := io_plain (by decide +kernel) rfl
theorem r_X17_laid_8 : IOK WB AD SR FW TB md_X17_laid 8 (.iconst 3, 0, 0, 0, []) := io_plain (by decide +kernel) rfl
theorem r_X17_laid_9 : IOK WB AD SR FW TB md_X17_laid 9 (.if_icmp .ge 81, 0, 0, 0, []) := io_plain (by decide +kernel) rfl
theorem r_X17_laid_12 : IOK WB AD SR FW TB md_X17_laid 12 (.iconst 0, 0, 0, 0, []) := io_plain (by decide +kernel) rfl
theorem r_X17_laid_13 : IOK WB AD SR FW TB md_X17_laid 13 (.istore 7, 0, 0, 0, []) := io_plain (by decide +kernel) rfl
theorem r_X17_laid_15 : IOK WB AD SR FW TB md_X17_laid 15 (.iload 7, 0, 0, 0, []) := io_plain (by decide +kernel) rfl
theorem r_X17_laid_17 : IOK WB AD SR FW TB md_X17_laid 17 (.aload_n 2, 0, 0, 0, []) := io_plain (by decide +kernel) rfl
theorem r_X17_laid_18 : IOK WB AD SR FW TB md_X17_laid 18 (.getfield 125, 17, 2, 2, []) := io_get (by decide +kernel) fo_RX17_125
theorem r_X17_laid_21 : IOK WB AD SR FW TB md_X17_laid 21 (.arraylength, 0, 0, 0, []) := io_plain (by decide +kernel) rfl
theorem r_X17_laid_22 : IOK WB AD SR FW TB md_X17_laid 22 (.if_icmp .ge 62, 0, 0, 0, []) := io_plain (by decide +kernel) rfl
theorem r_X17_laid_84 : IOK WB AD SR FW TB md_X17_laid 84 (.iinc 6 1, 0, 0, 0, []) := io_plain (by decide +kernel) rfl
theorem r_X17_laid_87 : IOK WB AD SR FW TB md_X17_laid 87 (.goto (-81), 0, 0, 0, []) := io_plain (by decide +kernel) rfl
theorem r_X17_laid_90 : IOK WB AD SR FW TB md_X17_laid 90 (.iload 5, 0, 0, 0, []) := io_plain (by decide +kernel) rfl
theorem r_X17_laid_92 : IOK WB AD SR FW TB md_X17_laid 92 (.ireturn, 0, 0, 0, []) := io_plain (by decide +kernel) rfl
set_option maxRecDepth 100000 in
theorem ok_X17_laid_0 : ∀ q ∈ tl_X17_laid, IOK WB AD SR FW TB md_X17_laid q.1 q.2 := List.forall_mem_cons.mpr ⟨r_X17_laid_0, List.forall_mem_cons.mpr ⟨r_X17_laid_1, List.forall_mem_cons.mpr ⟨r_X17_laid_3, List.forall_mem_cons.mpr ⟨r_X17_laid_4, List.forall_mem_cons.mpr ⟨r_X17_laid_6, List.forall_mem_cons.mpr ⟨r_X17_laid_8, List.forall_mem_cons.mpr ⟨r_X17_laid_9, List.forall_mem_cons.mpr ⟨r_X17_laid_12, List.forall_mem_cons.mpr ⟨r_X17_laid_13, List.forall_mem_cons.mpr ⟨r_X17_laid_15, List.forall_mem_cons.mpr ⟨r_X17_laid_17, List.forall_mem_cons.mpr ⟨r_X17_laid_18, List.forall_mem_cons.mpr ⟨r_X17_laid_21, List.forall_mem_cons.mpr ⟨r_X17_laid_22, List.forall_mem_cons.mpr ⟨r_X17_laid_84, List.forall_mem_cons.mpr ⟨r_X17_laid_87, List.forall_mem_cons.mpr ⟨r_X17_laid_90, List.forall_mem_cons.mpr ⟨r_X17_laid_92, fun _ h => absurd h List.not_mem_nil⟩⟩⟩⟩⟩⟩⟩⟩⟩⟩⟩⟩⟩⟩⟩⟩⟩⟩
set_option maxRecDepth 100000 in
theorem tq_X17_laid_0 : tf_X17_laid = tl_X17_laid.map (fun q => (q.1, stepOf NPf md_X17_laid q.2)) := rfl
theorem ro_X17_laid : RowsOK (md_X17_laid, tl_X17_laid) tf_X17_laid := ⟨tq_X17_laid_0, ok_X17_laid_0⟩
theorem r_X17_lays_0 : IOK WB AD SR FW TB md_X17_lays 0 (.aload_n 0, 0, 0, 0, []) := io_plain (by decide +kernel) rfl
theorem r_X17_lays_1 : IOK WB AD SR FW TB md_X17_lays 1 (.getfield 84, 18, 32, 2, []) := io_get (by decide +kernel) fo_RX17_84
theorem r_X17_lays_4 : IOK WB AD SR FW TB md_X17_lays 4 (.iload_n 1, 0, 0, 0, []) := io_plain (by decide +kernel) rfl
theorem r_X17_lays_5 : IOK WB AD SR FW TB md_X17_lays 5 (.aload_n 2, 0, 0, 0, []) := io_plain (by decide +kernel) rfl
theorem r_X17_lays_6 : IOK WB AD SR FW TB md_X17_lays 6 (.aastore, 0, 0, 0, []) := io_plain (by decide +kernel) rfl
theorem r_X17_lays_7 : IOK WB AD SR FW TB md_X17_lays 7 (.aload_n 0, 0, 0, 0, []) := io_plain (by decide +kernel) rfl
theorem r_X17_lays_8 : IOK WB AD SR FW TB md_X17_lays 8 (.getfield 87, 18, 33, 2, []) := io_get (by decide +kernel) fo_RX17_87
theorem r_X17_lays_11 : IOK WB AD SR FW TB md_X17_lays 11 (.iload_n 1, 0, 0, 0, []) := io_plain (by decide +kernel) rfl
theorem r_X17_lays_12 : IOK WB AD SR FW TB md_X17_lays 12 (.aload_n 3, 0, 0, 0, []) := io_plain (by decide +kernel) rfl
theorem r_X17_lays_13 : IOK WB AD SR FW TB md_X17_lays 13 (.aastore, 0, 0, 0, []) := io_plain (by decide +kernel) rfl
theorem r_X17_lays_14 : IOK WB AD SR FW TB md_X17_lays 14 (.aload_n 0, 0, 0, 0, []) := io_plain (by decide +kernel) rfl
theorem r_X17_lays_15 : IOK WB AD SR FW TB md_X17_lays 15 (.getfield 90, 18, 34, 2, []) := io_get (by decide +kernel) fo_RX17_90
theorem r_X17_lays_18 : IOK WB AD SR FW TB md_X17_lays 18 (.iload_n 1, 0, 0, 0, []) := io_plain (by decide +kernel) rfl
theorem r_X17_lays_19 : IOK WB AD SR FW TB md_X17_lays 19 (.iload 4, 0, 0, 0, []) := io_plain (by decide +kernel) rfl
theorem r_X17_lays_21 : IOK WB AD SR FW TB md_X17_lays 21 (.iastore, 0, 0, 0, []) := io_plain (by decide +kernel) rfl
theorem r_X17_lays_22 : IOK WB AD SR FW TB md_X17_lays 22 (.aload_n 0, 0, 0, 0, []) := io_plain (by decide +kernel) rfl
theorem r_X17_lays_23 : IOK WB AD SR FW TB md_X17_lays 23 (.getfield 93, 18, 35, 2, []) := io_get (by decide +kernel) fo_RX17_93
theorem r_X17_lays_26 : IOK WB AD SR FW TB md_X17_lays 26 (.iload_n 1, 0, 0, 0, []) := io_plain (by decide +kernel) rfl
theorem r_X17_lays_27 : IOK WB AD SR FW TB md_X17_lays 27 (.iload 5, 0, 0, 0, []) := io_plain (by decide +kernel) rfl
theorem r_X17_lays_29 : IOK WB AD SR FW TB md_X17_lays 29 (.iastore, 0, 0, 0, []) := io_plain (by decide +kernel) rfl
theorem r_X17_lays_30 : IOK WB AD SR FW TB md_X17_lays 30 (.return_, 0, 0, 0, []) := io_void (by decide +kernel) rfl
set_option maxRecDepth 100000 in
theorem ok_X17_lays_0 : ∀ q ∈ tl_X17_lays, IOK WB AD SR FW TB md_X17_lays q.1 q.2 := List.forall_mem_cons.mpr ⟨r_X17_lays_0, List.forall_mem_cons.mpr ⟨r_X17_lays_1, List.forall_mem_cons.mpr ⟨r_X17_lays_4, List.forall_mem_cons.mpr ⟨r_X17_lays_5, List.forall_mem_cons.mpr ⟨r_X17_lays_6, List.forall_mem_cons.mpr ⟨r_X17_lays_7, List.forall_mem_cons.mpr ⟨r_X17_lays_8, List.forall_mem_cons.mpr ⟨r_X17_lays_11, List.forall_mem_cons.mpr ⟨r_X17_lays_12, List.forall_mem_cons.mpr ⟨r_X17_lays_13, List.forall_mem_cons.mpr ⟨r_X17_lays_14, List.forall_mem_cons.mpr ⟨r_X17_lays_15, List.forall_mem_cons.mpr ⟨r_X17_lays_18, List.forall_mem_cons.mpr ⟨r_X17_lays_19, List.forall_mem_cons.mpr ⟨r_X17_lays_21, List.forall_mem_cons.mpr ⟨r_X17_lays_22, List.forall_mem_cons.mpr ⟨r_X17_lays_23, List.forall_mem_cons.mpr ⟨r_X17_lays_26, List.forall_mem_cons.mpr ⟨r_X17_lays_27, List.forall_mem_cons.mpr ⟨r_X17_lays_29, List.forall_mem_cons.mpr ⟨r_X17_lays_30, fun _ h => absurd h List.not_mem_nil⟩⟩⟩⟩⟩⟩⟩⟩⟩⟩⟩⟩⟩⟩⟩⟩⟩⟩⟩⟩⟩
set_option maxRecDepth 100000 in
theorem tq_X17_lays_0 : tf_X17_lays = tl_X17_lays.map (fun q => (q.1, stepOf NPf md_X17_lays q.2)) := rfl
theorem ro_X17_lays : RowsOK (md_X17_lays, tl_X17_lays) tf_X17_lays := ⟨tq_X17_lays_0, ok_X17_lays_0⟩
theorem r_X3_solve_0 : IOK WB AD SR FW TB md_X3_solve 0 (.iload_n 1, 0, 0, 0, []) := io_plain (by decide +kernel) rfl
theorem r_X3_solve_1 : IOK WB AD SR FW TB md_X3_solve 1 (.iconst (-1), 0, 0, 0, []) := io_plain (by decide +kernel) rfl
theorem r_X3_solve_2 : IOK WB AD SR FW TB md_X3_solve 2 (.if_icmp .ne 8, 0, 0, 0, []) := io_plain (by decide +kernel) rfl
theorem r_X3_solve_5 : IOK WB AD SR FW TB md_X3_solve 5 (.aload_n 0, 0, 0, 0, []) := io_plain (by decide +kernel) rfl
theorem r_X3_solve_6 : IOK WB AD SR FW TB md_X3_solve 6 (.invokevirtual 154, 14, 4, 0, []) := io_virt (by decide +kernel) tb_X3_noteMatch (Or.inl (wb_4 69 rfl rfl)) in_X3_noteMatch se_X3_noteMatch ⟨_, rfl, rfl⟩ pr_X3_noteMatch (by decide)
theorem r_X3_solve_9 : IOK WB AD SR FW TB md_X3_solve 9 (.return_, 0, 0, 0, []) := io_void (by decide +kernel) rfl
theorem r_X3_solve_10 : IOK WB AD SR FW TB md_X3_solve 10 (.aload_n 0, 0, 0, 0, []) := io_plain (by decide +kernel) rfl
theorem r_X3_solve_11 : IOK WB AD SR FW TB md_X3_solve 11 (.getfield 96, 4, 12, 0, []) := io_get (by decide +kernel) fo_RX3_96
theorem r_X3_solve_14 : IOK WB AD SR FW TB md_X3_solve 14 (.istore_n 2, 0, 0, 0, []) := io_plain (by decide +kernel) rfl
theorem r_X3_solve_15 : IOK WB AD SR FW TB md_X3_solve 15 (.iload_n 2, 0, 0, 0, []) := io_plain (by decide +kernel) rfl
theorem r_X3_solve_16 : IOK WB AD SR FW TB md_X3_solve 16 (.bipush 56, 0, 0, 0, []) := io_plain (by decide +kernel) rfl
theorem r_X3_solve_18 : IOK WB AD SR FW TB md_X3_solve 18 (.if_icmp .le 4, 0, 0, 0, []) := io_plain (by decide +kernel) rfl
theorem r_X3_solve_22 : IOK WB AD SR FW TB md_X3_solve 22 (.aload_n 0, 0, 0, 0, []) := io_plain (by decide +kernel) rfl
theorem r_X3_solve_23 : IOK WB AD SR FW TB md_X3_solve 23 (.getfield 29, 4, 9, 2, []) := io_get (by decide +kernel) fo_RX3_29
theorem r_X3_solve_26 : IOK WB AD SR FW TB md_X3_solve 26 (.iload_n 1, 0, 0, 0, []) := io_plain (by decide +kernel) rfl
theorem r_X3_solve_27 : IOK WB AD SR FW TB md_X3_solve 27 (.iaload, 0, 0, 0, []) := io_plain (by decide +kernel) rfl
theorem r_X3_solve_28 : IOK WB AD SR FW TB md_X3_solve 28 (.ifCond .le 11, 0, 0, 0, []) := io_plain (by decide +kernel) rfl
theorem r_X3_solve_39 : IOK WB AD SR FW TB md_X3_solve 39 (.aload_n 0, 0, 0, 0, []) := io_plain (by decide +kernel) rfl
theorem r_X3_solve_40 : IOK WB AD SR FW TB md_X3_solve 40 (.getfield 38, 4, 0, 2, []) := io_get (by decide +kernel) fo_RX3_38
theorem r_X3_solve_43 : IOK WB AD SR FW TB md_X3_solve 43 (.getfield 140, 9, 1, 2, []) := io_get (by decide +kernel) fo_RX3_140
theorem r_X3_solve_46 : IOK WB AD SR FW TB md_X3_solve 46 (.aload_n 0, 0, 0, 0, []) := io_plain (by decide +kernel) rfl
theorem r_X3_solve_47 : IOK WB AD SR FW TB md_X3_solve 47 (.getfield 20, 4, 6, 2, []) := io_get (by decide +kernel) fo_RX3_20
theorem r_X3_solve_50 : IOK WB AD SR FW TB md_X3_solve 50 (.iload_n 1, 0, 0, 0, []) := io_plain (by decide +kernel) rfl
theorem r_X3_solve_51 : IOK WB AD SR FW TB md_X3_solve 51 (.iaload, 0, 0, 0, []) := io_plain (by decide +kernel) rfl
theorem r_X3_solve_52 : IOK WB AD SR FW TB md_X3_solve 52 (.iaload, 0, 0, 0, []) := io_plain (by decide +kernel) rfl
theorem r_X3_solve_53 : IOK WB AD SR FW TB md_X3_solve 53 (.bipush 32, 0, 0, 0, []) := io_plain (by decide +kernel) rfl
theorem r_X3_solve_55 : IOK WB AD SR FW TB md_X3_solve 55 (.if_icmp .ge 11, 0, 0, 0, []) := io_plain (by decide +kernel) rfl
theorem r_X3_solve_66 : IOK WB AD SR FW TB md_X3_solve 66 (.aload_n 0, 0, 0, 0, []) := io_plain (by decide +kernel) rfl
theorem r_X3_solve_67 : IOK WB AD SR FW TB md_X3_solve 67 (.iload_n 1, 0, 0, 0, []) := io_plain (by decide +kernel) rfl
theorem r_X3_solve_68 : IOK WB AD SR FW TB md_X3_solve 68 (.invokevirtual 163, 33, 4, 0, []) := io_virt (by decide +kernel) tb_X3_meet (Or.inl (wb_4 97 rfl rfl)) in_X3_meet se_X3_meet ⟨_, rfl, rfl⟩ pr_X3_meet (by decide)
theorem r_X3_solve_71 : IOK WB AD SR FW TB md_X3_solve 71 (.aload_n 0, 0, 0, 0, []) := io_plain (by decide +kernel) rfl
theorem r_X3_solve_72 : IOK WB AD SR FW TB md_X3_solve 72 (.iload_n 2, 0, 0, 0, []) := io_plain (by decide +kernel) rfl
theorem r_X3_solve_73 : IOK WB AD SR FW TB md_X3_solve 73 (.putfield 96, 4, 12, 0, []) := io_put (by decide +kernel) fo_RX3_96 po_RX3_0_4_12_0
theorem r_X3_solve_76 : IOK WB AD SR FW TB md_X3_solve 76 (.return_, 0, 0, 0, []) := io_void (by decide +kernel) rfl
set_option maxRecDepth 100000 in
theorem ok_X3_solve_0 : ∀ q ∈ tl_X3_solve, IOK WB AD SR FW TB md_X3_solve q.1 q.2 := fun _ h => absurd h List.not_mem_nil
set_option maxRecDepth 100000 in
theorem tq_X3_solve_0 : tf_X3_solve = tl_X3_solve.map (fun q => (q.1, stepOf NPf md_X3_solve q.2)) := rfl
theorem ro_X3_solve : RowsOK (md_X3_solve, tl_X3_solve) tf_X3_solve := ⟨tq_X3_solve_0, ok_X3_solve_0⟩
theorem r_X17_apply_0 : IOK WB AD SR FW TB md_X17_apply 0 (.aload_n 0, 0, 0, 0, []) := io_plain (by decide +kernel) rfl
theorem r_X17_apply_1 : IOK WB AD SR FW TB md_X17_apply 1 (.iload_n 1, 0, 0, 0, []) := io_plain (by decide +kernel) rfl
theorem r_X17_apply_2 : IOK WB AD SR FW TB md_X17_apply 2 (.iconst 0, 0, 0, 0, []) := io_plain (by decide +kernel) rfl
theorem r_X17_apply_3 : IOK WB AD SR FW TB md_X17_apply 3 (.aload_n 0, 0, 0, 0, []) := io_plain (by decide +kernel) rfl
theorem r_X17_apply_4 : IOK WB AD SR FW TB md_X17_apply 4 (.getfield 493, 18, 4, 0, []) := io_get (by decide +kernel) fo_RX17_493
theorem r_X17_apply_7 : IOK WB AD SR FW TB md_X17_apply 7 (.iconst 1, 0, 0, 0, []) := io_plain (by decide +kernel) rfl
theorem r_X17_apply_8 : IOK WB AD SR FW TB md_X17_apply 8 (.isub, 0, 0, 0, []) := io_plain (by decide +kernel) rfl
theorem r_X17_apply_9 : IOK WB AD SR FW TB md_X17_apply 9 (.invokestatic 370, 72, 18, 0, []) := io_stat (by decide +kernel) tb_X17_isIn (Or.inl (wb_9 104 rfl rfl)) st_X17_isIn pr_X17_isIn
theorem r_X17_apply_12 : IOK WB AD SR FW TB md_X17_apply 12 (.ifCond .eq 7, 0, 0, 0, []) := io_plain (by decide +kernel) rfl
theorem r_X17_apply_15 : IOK WB AD SR FW TB md_X17_apply 15 (.iconst 0, 0, 0, 0, []) := io_plain (by decide +kernel) rfl
theorem r_X17_apply_16 : IOK WB AD SR FW TB md_X17_apply 16 (.goto 4, 0, 0, 0, []) := io_plain (by decide +kernel) rfl
theorem r_X17_apply_20 : IOK WB AD SR FW TB md_X17_apply 20 (.putfield 114, 18, 0, 0, []) := io_put (by decide +kernel) fo_RX17_114 po_RX17_0_18_0_0
theorem r_X17_apply_23 : IOK WB AD SR FW TB md_X17_apply 23 (.aload_n 0, 0, 0, 0, []) := io_plain (by decide +kernel) rfl
theorem r_X17_apply_24 : IOK WB AD SR FW TB md_X17_apply 24 (.getfield 114, 18, 0, 0, []) := io_get (by decide +kernel) fo_RX17_114
theorem r_X17_apply_27 : IOK WB AD SR FW TB md_X17_apply 27 (.ifCond .le 5, 0, 0, 0, []) := io_plain (by decide +kernel) rfl
theorem r_X17_apply_32 : IOK WB AD SR FW TB md_X17_apply 32 (.aload_n 0, 0, 0, 0, []) := io_plain (by decide +kernel) rfl
theorem r_X17_apply_33 : IOK WB AD SR FW TB md_X17_apply 33 (.getfield 44, 18, 13, 2, []) := io_get (by decide +kernel) fo_RX17_44
theorem r_X17_apply_36 : IOK WB AD SR FW TB md_X17_apply 36 (.invokeinterface 271 1, 24, 0, 0, []) := io_face (by decide +kernel) tb_Jx4a65c_size_8abf5 (List.mem_of_getElem? (i := 0) rfl) (wb_8 32 rfl rfl) in_Jx4a65c_size_8abf5 (wb_8 35 rfl rfl) rfl rfl rfl pr_Jx4a65c_size_8abf5 (by decide)
theorem r_X17_apply_41 : IOK WB AD SR FW TB md_X17_apply 41 (.aload_n 0, 0, 0, 0, []) := io_plain (by decide +kernel) rfl
theorem r_X17_apply_42 : IOK WB AD SR FW TB md_X17_apply 42 (.getfield 17, 18, 5, 2, []) := io_get (by decide +kernel) fo_RX17_17
theorem r_X17_apply_45 : IOK WB AD SR FW TB md_X17_apply 45 (.iload_n 1, 0, 0, 0, []) := io_plain (by decide +kernel) rfl
theorem r_X17_apply_46 : IOK WB AD SR FW TB md_X17_apply 46 (.iaload, 0, 0, 0, []) := io_plain (by decide +kernel) rfl
theorem r_X17_apply_47 : IOK WB AD SR FW TB md_X17_apply 47 (.isub, 0, 0, 0, []) := io_plain (by decide +kernel) rfl
theorem r_X17_apply_48 : IOK WB AD SR FW TB md_X17_apply 48 (.istore_n 2, 0, 0, 0, []) := io_plain (by decide +kernel) rfl
theorem r_X17_apply_49 : IOK WB AD SR FW TB md_X17_apply 49 (.aload_n 0, 0, 0, 0, []) := io_plain (by decide +kernel) rfl
theorem r_X17_apply_50 : IOK WB AD SR FW TB md_X17_apply 50 (.iload_n 2, 0, 0, 0, []) := io_plain (by decide +kernel) rfl
theorem r_X17_apply_51 : IOK WB AD SR FW TB md_X17_apply 51 (.ifCond .lt 9, 0, 0, 0, []) := io_plain (by decide +kernel) rfl
theorem r_X17_apply_54 : IOK WB AD SR FW TB md_X17_apply 54 (.iload_n 2, 0, 0, 0, []) := io_plain (by decide +kernel) rfl
theorem r_X17_apply_55 : IOK WB AD SR FW TB md_X17_apply 55 (.bipush 10, 0, 0, 0, []) := io_plain (by decide +kernel) rfl
theorem r_X17_apply_57 : IOK WB AD SR FW TB md_X17_apply 57 (.if_icmp .ne 7, 0, 0, 0, []) := io_plain (by decide +kernel) rfl
theorem r_X17_apply_64 : IOK WB AD SR FW TB md_X17_apply 64 (.iconst 0, 0, 0, 0, []) := io_plain (by decide +kernel) rfl
theorem r_X17_apply_65 : IOK WB AD SR FW TB md_X17_apply 65 (.putfield 114, 18, 0, 0, []) := io_put (by decide +kernel) fo_RX17_114 po_RX17_0_18_0_0
theorem r_X17_apply_68 : IOK WB AD SR FW TB md_X17_apply 68 (.aload_n 0, 0, 0, 0, []) := io_plain (by decide +kernel) rfl
theorem r_X17_apply_69 : IOK WB AD SR FW TB md_X17_apply 69 (.getfield 114, 18, 0, 0, []) := io_get (by decide +kernel) fo_RX17_114
theorem r_X17_apply_72 : IOK WB AD SR FW TB md_X17_apply 72 (.ifCond .le 5, 0, 0, 0, []) := io_plain (by decide +kernel) rfl
theorem r_X17_apply_77 : IOK WB AD SR FW TB md_X17_apply 77 (.aload_n 0, 0, 0, 0, []) := io_plain (by decide +kernel) rfl
theorem r_X17_apply_78 : IOK WB AD SR FW TB md_X17_apply 78 (.getfield 17, 18, 5, 2, []) := io_get (by decide +kernel) fo_RX17_17
theorem r_X17_apply_81 : IOK WB AD SR FW TB md_X17_apply 81 (.iload_n 1, 0, 0, 0, []) := io_plain (by decide +kernel) rfl
theorem r_X17_apply_82 : IOK WB AD SR FW TB md_X17_apply 82 (.iaload, 0, 0, 0, []) := io_plain (by decide +kernel) rfl
theorem r_X17_apply_83 : IOK WB AD SR FW TB md_X17_apply 83 (.anewarray 48, 0, 0, 0, []) := io_newq (by decide +kernel) (by decide) (wb_7 72 rfl rfl)
theorem r_X17_apply_86 : IOK WB AD SR FW TB md_X17_apply 86 (.astore_n 3, 0, 0, 0, []) := io_plain (by decide +kernel) rfl
theorem r_X17_apply_87 : IOK WB AD SR FW TB md_X17_apply 87 (.iconst 0, 0, 0, 0, []) := io_plain (by decide +kernel) rfl
theorem r_X17_apply_88 : IOK WB AD SR FW TB md_X17_apply 88 (.istore 4, 0, 0, 0, []) := io_plain (by decide +kernel) rfl
theorem r_X17_apply_90 : IOK WB AD SR FW TB md_X17_apply 90 (.iload 4, 0, 0, 0, []) := io_plain (by decide +kernel) rfl
theorem r_X17_apply_92 : IOK WB AD SR FW TB md_X17_apply 92 (.aload_n 3, 0, 0, 0, []) := io_plain (by decide +kernel) rfl
theorem r_X17_apply_93 : IOK WB AD SR FW TB md_X17_apply 93 (.arraylength, 0, 0, 0, []) := io_plain (by decide +kernel) rfl
theorem r_X17_apply_94 : IOK WB AD SR FW TB md_X17_apply 94 (.if_icmp .ge 29, 0, 0, 0, []) := io_plain (by decide +kernel) rfl
theorem r_X17_apply_97 : IOK WB AD SR FW TB md_X17_apply 97 (.aload_n 3, 0, 0, 0, []) := io_plain (by decide +kernel) rfl
theorem r_X17_apply_98 : IOK WB AD SR FW TB md_X17_apply 98 (.iload 4, 0, 0, 0, []) := io_plain (by decide +kernel) rfl
theorem r_X17_apply_100 : IOK WB AD SR FW TB md_X17_apply 100 (.aload_n 0, 0, 0, 0, []) := io_plain (by decide +kernel) rfl
theorem r_X17_apply_101 : IOK WB AD SR FW TB md_X17_apply 101 (.getfield 44, 18, 13, 2, []) := io_get (by decide +kernel) fo_RX17_44
theorem r_X17_apply_104 : IOK WB AD SR FW TB md_X17_apply 104 (.iload_n 2, 0, 0, 0, []) := io_plain (by decide +kernel) rfl
theorem r_X17_apply_105 : IOK WB AD SR FW TB md_X17_apply 105 (.iload 4, 0, 0, 0, []) := io_plain (by decide +kernel) rfl
theorem r_X17_apply_107 : IOK WB AD SR FW TB md_X17_apply 107 (.iadd, 0, 0, 0, []) := io_plain (by decide +kernel) rfl
theorem r_X17_apply_108 : IOK WB AD SR FW TB md_X17_apply 108 (.invokeinterface 275 2, 51, 0, 0, []) := io_face (by decide +kernel) tb_Jx4a65c_get_915e3 (List.mem_of_getElem? (i := 1) rfl) (wb_8 146 rfl rfl) in_Jx4a65c_get_915e3 (wb_8 149 rfl rfl) rfl rfl rfl pr_Jx4a65c_get_915e3 (by decide)
theorem r_X17_apply_113 : IOK WB AD SR FW TB md_X17_apply 113 (.checkcast 48, 17, 0, 0, []) := io_cast (by decide +kernel) ⟨_, rfl, (wb_7 72 rfl rfl)⟩
theorem r_X17_apply_116 : IOK WB AD SR FW TB md_X17_apply 116 (.aastore, 0, 0, 0, []) := io_plain (by decide +kernel) rfl
theorem r_X17_apply_117 : IOK WB AD SR FW TB md_X17_apply 117 (.iinc 4 1, 0, 0, 0, []) := io_plain (by decide +kernel) rfl
theorem r_X17_apply_120 : IOK WB AD SR FW TB md_X17_apply 120 (.goto (-30), 0, 0, 0, []) := io_plain (by decide +kernel) rfl
theorem r_X17_apply_123 : IOK WB AD SR FW TB md_X17_apply 123 (.aconst_null, 0, 0, 0, []) := io_plain (by decide +kernel) rfl
theorem r_X17_apply_124 : IOK WB AD SR FW TB md_X17_apply 124 (.astore 4, 0, 0, 0, []) := io_plain (by decide +kernel) rfl
theorem r_X17_apply_126 : IOK WB AD SR FW TB md_X17_apply 126 (.aload_n 0, 0, 0, 0, []) := io_plain (by decide +kernel) rfl
theorem r_X17_apply_127 : IOK WB AD SR FW TB md_X17_apply 127 (.iload_n 1, 0, 0, 0, []) := io_plain (by decide +kernel) rfl
theorem r_X17_apply_128 : IOK WB AD SR FW TB md_X17_apply 128 (.aload_n 3, 0, 0, 0, []) := io_plain (by decide +kernel) rfl
theorem r_X17_apply_129 : IOK WB AD SR FW TB md_X17_apply 129 (.invokevirtual 250, 60, 18, 0, []) := io_virt (by decide +kernel) tb_X17_put (Or.inl (wb_8 93 rfl rfl)) in_X17_put se_X17_put ⟨_, rfl, rfl⟩ pr_X17_put (by decide)
theorem r_X17_apply_132 : IOK WB AD SR FW TB md_X17_apply 132 (.astore 4, 0, 0, 0, []) := io_plain (by decide +kernel) rfl
theorem r_X17_apply_134 : IOK WB AD SR FW TB md_X17_apply 134 (.goto 10, 0, 0, 0, []) := io_plain (by decide +kernel) rfl
theorem r_X17_apply_144 : IOK WB AD SR FW TB md_X17_apply 144 (.aload_n 0, 0, 0, 0, []) := io_plain (by decide +kernel) rfl
theorem r_X17_apply_145 : IOK WB AD SR FW TB md_X17_apply 145 (.getfield 114, 18, 0, 0, []) := io_get (by decide +kernel) fo_RX17_114
theorem r_X17_apply_148 : IOK WB AD SR FW TB md_X17_apply 148 (.ifCond .le 5, 0, 0, 0, []) := io_plain (by decide +kernel) rfl
theorem r_X17_apply_153 : IOK WB AD SR FW TB md_X17_apply 153 (.aload_n 0, 0, 0, 0, []) := io_plain (by decide +kernel) rfl
theorem r_X17_apply_154 : IOK WB AD SR FW TB md_X17_apply 154 (.getfield 44, 18, 13, 2, []) := io_get (by decide +kernel) fo_RX17_44
theorem r_X17_apply_157 : IOK WB AD SR FW TB md_X17_apply 157 (.invokeinterface 271 1, 24, 0, 0, []) := io_face (by decide +kernel) tb_Jx4a65c_size_8abf5 (List.mem_of_getElem? (i := 0) rfl) (wb_8 32 rfl rfl) in_Jx4a65c_size_8abf5 (wb_8 35 rfl rfl) rfl rfl rfl pr_Jx4a65c_size_8abf5 (by decide)
theorem r_X17_apply_162 : IOK WB AD SR FW TB md_X17_apply 162 (.iload_n 2, 0, 0, 0, []) := io_plain (by decide +kernel) rfl
theorem r_X17_apply_163 : IOK WB AD SR FW TB md_X17_apply 163 (.if_icmp .le 11, 0, 0, 0, []) := io_plain (by decide +kernel) rfl
theorem r_X17_apply_166 : IOK WB AD SR FW TB md_X17_apply 166 (.aload_n 0, 0, 0, 0, []) := io_plain (by decide +kernel) rfl
theorem r_X17_apply_167 : IOK WB AD SR FW TB md_X17_apply 167 (.invokevirtual 363, 74, 18, 0, []) := io_virt (by decide +kernel) tb_X17_pop (Or.inl (wb_8 27 rfl rfl)) in_X17_pop se_X17_pop ⟨_, rfl, rfl⟩ pr_X17_pop (by decide)
theorem r_X17_apply_170 : IOK WB AD SR FW TB md_X17_apply 170 (.pop, 0, 0, 0, []) := io_plain (by decide +kernel) rfl
theorem r_X17_apply_171 : IOK WB AD SR FW TB md_X17_apply 171 (.goto (-18), 0, 0, 0, []) := io_plain (by decide +kernel) rfl
theorem r_X17_apply_174 : IOK WB AD SR FW TB md_X17_apply 174 (.aload_n 0, 0, 0, 0, []) := io_plain (by decide +kernel) rfl
theorem r_X17_apply_175 : IOK WB AD SR FW TB md_X17_apply 175 (.getfield 44, 18, 13, 2, []) := io_get (by decide +kernel) fo_RX17_44
theorem r_X17_apply_178 : IOK WB AD SR FW TB md_X17_apply 178 (.aload 4, 0, 0, 0, []) := io_plain (by decide +kernel) rfl
theorem r_X17_apply_180 : IOK WB AD SR FW TB md_X17_apply 180 (.invokeinterface 344 2, 64, 0, 0, []) := io_face (by decide +kernel) tb_Jx4a65c_add_9ea2d (List.mem_of_getElem? (i := 2) rfl) (wb_9 10 rfl rfl) in_Jx4a65c_add_9ea2d (wb_9 13 rfl rfl) rfl rfl rfl pr_Jx4a65c_add_9ea2d (by decide)
theorem r_X17_apply_185 : IOK WB AD SR FW TB md_X17_apply 185 (.pop, 0, 0, 0, []) := io_plain (by decide +kernel) rfl
theorem r_X17_apply_186 : IOK WB AD SR FW TB md_X17_apply 186 (.aload_n 0, 0, 0, 0, []) := io_plain (by decide +kernel) rfl
theorem r_X17_apply_187 : IOK WB AD SR FW TB md_X17_apply 187 (.getfield 44, 18, 13, 2, []) := io_get (by decide +kernel) fo_RX17_44
theorem r_X17_apply_190 : IOK WB AD SR FW TB md_X17_apply 190 (.invokeinterface 271 1, 24, 0, 0, []) := io_face (by decide +kernel) tb_Jx4a65c_size_8abf5 (List.mem_of_getElem? (i := 0) rfl) (wb_8 32 rfl rfl) in_Jx4a65c_size_8abf5 (wb_8 35 rfl rfl) rfl rfl rfl pr_Jx4a65c_size_8abf5 (by decide)
theorem r_X17_apply_195 : IOK WB AD SR FW TB md_X17_apply 195 (.ireturn, 0, 0, 0, []) := io_plain (by decide +kernel) rfl
set_option maxRecDepth 100000 in
theorem ok_X17_apply_0 : ∀ q ∈ tl_X17_apply_0, IOK WB AD SR FW TB md_X17_apply q.1 q.2 := List.forall_mem_cons.mpr ⟨r_X17_apply_0, List.forall_mem_cons.mpr ⟨r_X17_apply_1, List.forall_mem_cons.mpr ⟨r_X17_apply_2, List.forall_mem_cons.mpr ⟨r_X17_apply_3, List.forall_mem_cons.mpr ⟨r_X17_apply_4, List.forall_mem_cons.mpr ⟨r_X17_apply_7, List.forall_mem_cons.mpr ⟨r_X17_apply_8, List.forall_mem_cons.mpr ⟨r_X17_apply_9, List.forall_mem_cons.mpr ⟨r_X17_apply_12, List.forall_mem_cons.mpr ⟨r_X17_apply_15, List.forall_mem_cons.mpr ⟨r_X17_apply_16, List.forall_mem_cons.mpr ⟨r_X17_apply_20, List.forall_mem_cons.mpr ⟨r_X17_apply_23, List.forall_mem_cons.mpr ⟨r_X17_apply_24, List.forall_mem_cons.mpr ⟨r_X17_apply_27, List.forall_mem_cons.mpr ⟨r_X17_apply_32, List.forall_mem_cons.mpr ⟨r_X17_apply_33, List.forall_mem_cons.mpr ⟨r_X17_apply_36, List.forall_mem_cons.mpr ⟨r_X17_apply_41, List.forall_mem_cons.mpr ⟨r_X17_apply_42, List.forall_mem_cons.mpr ⟨r_X17_apply_45, List.forall_mem_cons.mpr ⟨r_X17_apply_46, List.forall_mem_cons.mpr ⟨r_X17_apply_47, List.forall_mem_cons.mpr ⟨r_X17_apply_48, List.forall_mem_cons.mpr ⟨r_X17_apply_49, List.forall_mem_cons.mpr ⟨r_X17_apply_50, List.forall_mem_cons.mpr ⟨r_X17_apply_51, List.forall_mem_cons.mpr ⟨r_X17_apply_54, List.forall_mem_cons.mpr ⟨r_X17_apply_55, List.forall_mem_cons.mpr ⟨r_X17_apply_57, List.forall_mem_cons.mpr ⟨r_X17_apply_64, List.forall_mem_cons.mpr ⟨r_X17_apply_65, List.forall_mem_cons.mpr ⟨r_X17_apply_68, List.forall_mem_cons.mpr ⟨r_X17_apply_69, List.forall_mem_cons.mpr ⟨r_X17_apply_72, List.forall_mem_cons.mpr ⟨r_X17_apply_77, List.forall_mem_cons.mpr ⟨r_X17_apply_78, List.forall_mem_cons.mpr ⟨r_X17_apply_81, List.forall_mem_cons.mpr ⟨r_X17_apply_82, List.forall_mem_cons.mpr ⟨r_X17_apply_83, fun _ h => absurd h List.not_mem_nil⟩⟩⟩⟩⟩⟩⟩⟩⟩⟩⟩⟩⟩⟩⟩⟩⟩⟩⟩⟩⟩⟩⟩⟩⟩⟩⟩⟩⟩⟩⟩⟩⟩⟩⟩⟩⟩⟩⟩⟩
set_option maxRecDepth 100000 in
theorem tq_X17_apply_0 : tf_X17_apply_0 = tl_X17_apply_0.map (fun q => (q.1, stepOf NPf md_X17_apply q.2)) := rfl
set_option maxRecDepth 100000 in
theorem ok_X17_apply_1 : ∀ q ∈ tl_X17_apply_1, IOK WB AD SR FW TB md_X17_apply q.1 q.2 := List.forall_mem_cons.mpr ⟨r_X17_apply_86, List.forall_mem_cons.mpr ⟨r_X17_apply_87, List.forall_mem_cons.mpr ⟨r_X17_apply_88, List.forall_mem_cons.mpr ⟨r_X17_apply_90, List.forall_mem_cons.mpr ⟨r_X17_apply_92, List.forall_mem_cons.mpr ⟨r_X17_apply_93, List.forall_mem_cons.mpr ⟨r_X17_apply_94, List.forall_mem_cons.mpr ⟨r_X17_apply_97, List.forall_mem_cons.mpr ⟨r_X17_apply_98, List.forall_mem_cons.mpr ⟨r_X17_apply_100, List.forall_mem_cons.mpr ⟨r_X17_apply_101, List.forall_mem_cons.mpr ⟨r_X17_apply_104, List.forall_mem_cons.mpr ⟨r_X17_apply_105, List.forall_mem_cons.mpr ⟨r_X17_apply_107, List.forall_mem_cons.mpr ⟨r_X17_apply_108, List.forall_mem_cons.mpr ⟨r_X17_apply_113, List.forall_mem_cons.mpr ⟨r_X17_apply_116, List.forall_mem_cons.mpr ⟨r_X17_apply_117, List.forall_mem_cons.mpr ⟨r_X17_apply_120, List.forall_mem_cons.mpr ⟨r_X17_apply_123, List.forall_mem_cons.mpr ⟨r_X17_apply_124, List.forall_mem_cons.mpr ⟨r_X17_apply_126, List.forall_mem_cons.mpr ⟨r_X17_apply_127, List.forall_mem_cons.mpr ⟨r_X17_apply_128, List.forall_mem_cons.mpr ⟨r_X17_apply_129, List.forall_mem_cons.mpr ⟨r_X17_apply_132, List.forall_mem_cons.mpr ⟨r_X17_apply_134, List.forall_mem_cons.mpr ⟨r_X17_apply_144, List.forall_mem_cons.mpr ⟨r_X17_apply_145, List.forall_mem_cons.mpr ⟨r_X17_apply_148, List.forall_mem_cons.mpr ⟨r_X17_apply_153, List.forall_mem_cons.mpr ⟨r_X17_apply_154, List.forall_mem_cons.mpr ⟨r_X17_apply_157, List.forall_mem_cons.mpr ⟨r_X17_apply_162, List.forall_mem_cons.mpr ⟨r_X17_apply_163, List.forall_mem_cons.mpr ⟨r_X17_apply_166, List.forall_mem_cons.mpr ⟨r_X17_apply_167, List.forall_mem_cons.mpr ⟨r_X17_apply_170, List.forall_mem_cons.mpr ⟨r_X17_apply_171, List.forall_mem_cons.mpr ⟨r_X17_apply_174, fun _ h => absurd h List.not_mem_nil⟩⟩⟩⟩⟩⟩⟩⟩⟩⟩⟩⟩⟩⟩⟩⟩⟩⟩⟩⟩⟩⟩⟩⟩⟩⟩⟩⟩⟩⟩⟩⟩⟩⟩⟩⟩⟩⟩⟩⟩
set_option maxRecDepth 100000 in
theorem tq_X17_apply_1 : tf_X17_apply_1 = tl_X17_apply_1.map (fun q => (q.1, stepOf NPf md_X17_apply q.2)) := rfl
set_option maxRecDepth 100000 in
theorem ok_X17_apply_2 : ∀ q ∈ tl_X17_apply_2, IOK WB AD SR FW TB md_X17_apply q.1 q.2 := List.forall_mem_cons.mpr ⟨r_X17_apply_175, List.forall_mem_cons.mpr ⟨r_X17_apply_178, List.forall_mem_cons.mpr ⟨r_X17_apply_180, List.forall_mem_cons.mpr ⟨r_X17_apply_185, List.forall_mem_cons.mpr ⟨r_X17_apply_186, List.forall_mem_cons.mpr ⟨r_X17_apply_187, List.forall_mem_cons.mpr ⟨r_X17_apply_190, List.forall_mem_cons.mpr ⟨r_X17_apply_195, fun _ h => absurd h List.not_mem_nil⟩⟩⟩⟩⟩⟩⟩⟩
set_option maxRecDepth 100000 in
theorem tq_X17_apply_2 : tf_X17_apply_2 = tl_X17_apply_2.map (fun q => (q.1, stepOf NPf md_X17_apply q.2)) := rfl
theorem ro_X17_apply : RowsOK (md_X17_apply, tl_X17_apply) tf_X17_apply := rows_app ⟨tq_X17_apply_0, ok_X17_apply_0⟩ (rows_app ⟨tq_X17_apply_1, ok_X17_apply_1⟩ (⟨tq_X17_apply_2, ok_X17_apply_2⟩))
theorem r_X3_addDuty_0 : IOK WB AD SR FW TB md_X3_addDuty 0 (.aload_n 0, 0, 0, 0, []) := io_plain (by decide +kernel) rfl
theorem r_X3_addDuty_1 : IOK WB AD SR FW TB md_X3_addDuty 1 (.getfield 96, 4, 12, 0, []) := io_get (by decide +kernel) fo_RX3_96
theorem r_X3_addDuty_4 : IOK WB AD SR FW TB md_X3_addDuty 4 (.istore 4, 0, 0, 0, []) := io_plain (by decide +kernel) rfl
theorem r_X3_addDuty_6 : IOK WB AD SR FW TB md_X3_addDuty 6 (.aload_n 0, 0, 0, 0, []) := io_plain (by decide +kernel) rfl
theorem r_X3_addDuty_7 : IOK WB AD SR FW TB md_X3_addDuty 7 (.getfield 20, 4, 6, 2, []) := io_get (by decide +kernel) fo_RX3_20
theorem r_X3_addDuty_10 : IOK WB AD SR FW TB md_X3_addDuty 10 (.iload 4, 0, 0, 0, []) := io_plain (by decide +kernel) rfl
theorem r_X3_addDuty_12 : IOK WB AD SR FW TB md_X3_addDuty 12 (.iload_n 1, 0, 0, 0, []) := io_plain (by decide +kernel) rfl
theorem r_X3_addDuty_13 : IOK WB AD SR FW TB md_X3_addDuty 13 (.iastore, 0, 0, 0, []) := io_plain (by decide +kernel) rfl
theorem r_X3_addDuty_14 : IOK WB AD SR FW TB md_X3_addDuty 14 (.aload_n 0, 0, 0, 0, []) := io_plain (by decide +kernel) rfl
theorem r_X3_addDuty_15 : IOK WB AD SR FW TB md_X3_addDuty 15 (.getfield 23, 4, 7, 2, []) := io_get (by decide +kernel) fo_RX3_23
theorem r_X3_addDuty_18 : IOK WB AD SR FW TB md_X3_addDuty 18 (.iload 4, 0, 0, 0, []) := io_plain (by decide +kernel) rfl
theorem r_X3_addDuty_20 : IOK WB AD SR FW TB md_X3_addDuty 20 (.iload_n 2, 0, 0, 0, []) := io_plain (by decide +kernel) rfl
theorem r_X3_addDuty_21 : IOK WB AD SR FW TB md_X3_addDuty 21 (.iastore, 0, 0, 0, []) := io_plain (by decide +kernel) rfl
theorem r_X3_addDuty_22 : IOK WB AD SR FW TB md_X3_addDuty 22 (.aload_n 0, 0, 0, 0, []) := io_plain (by decide +kernel) rfl
theorem r_X3_addDuty_23 : IOK WB AD SR FW TB md_X3_addDuty 23 (.getfield 29, 4, 9, 2, []) := io_get (by decide +kernel) fo_RX3_29
theorem r_X3_addDuty_26 : IOK WB AD SR FW TB md_X3_addDuty 26 (.iload 4, 0, 0, 0, []) := io_plain (by decide +kernel) rfl
theorem r_X3_addDuty_28 : IOK WB AD SR FW TB md_X3_addDuty 28 (.iconst 0, 0, 0, 0, []) := io_plain (by decide +kernel) rfl
theorem r_X3_addDuty_29 : IOK WB AD SR FW TB md_X3_addDuty 29 (.iastore, 0, 0, 0, []) := io_plain (by decide +kernel) rfl
theorem r_X3_addDuty_30 : IOK WB AD SR FW TB md_X3_addDuty 30 (.aload_n 0, 0, 0, 0, []) := io_plain (by decide +kernel) rfl
theorem r_X3_addDuty_31 : IOK WB AD SR FW TB md_X3_addDuty 31 (.getfield 35, 4, 11, 2, []) := io_get (by decide +kernel) fo_RX3_35
theorem r_X3_addDuty_34 : IOK WB AD SR FW TB md_X3_addDuty 34 (.iload 4, 0, 0, 0, []) := io_plain (by decide +kernel) rfl
theorem r_X3_addDuty_36 : IOK WB AD SR FW TB md_X3_addDuty 36 (.iload_n 3, 0, 0, 0, []) := io_plain (by decide +kernel) rfl
theorem r_X3_addDuty_37 : IOK WB AD SR FW TB md_X3_addDuty 37 (.iastore, 0, 0, 0, []) := io_plain (by decide +kernel) rfl
theorem r_X3_addDuty_38 : IOK WB AD SR FW TB md_X3_addDuty 38 (.aload_n 0, 0, 0, 0, []) := io_plain (by decide +kernel) rfl
theorem r_X3_addDuty_39 : IOK WB AD SR FW TB md_X3_addDuty 39 (.dup, 0, 0, 0, []) := io_plain (by decide +kernel) rfl
theorem r_X3_addDuty_40 : IOK WB AD SR FW TB md_X3_addDuty 40 (.getfield 96, 4, 12, 0, []) := io_get (by decide +kernel) fo_RX3_96
theorem r_X3_addDuty_43 : IOK WB AD SR FW TB md_X3_addDuty 43 (.iconst 1, 0, 0, 0, []) := io_plain (by decide +kernel) rfl
theorem r_X3_addDuty_44 : IOK WB AD SR FW TB md_X3_addDuty 44 (.iadd, 0, 0, 0, []) := io_plain (by decide +kernel) rfl
theorem r_X3_addDuty_45 : IOK WB AD SR FW TB md_X3_addDuty 45 (.putfield 96, 4, 12, 0, []) := io_put (by decide +kernel) fo_RX3_96 po_RX3_0_4_12_0
theorem r_X3_addDuty_48 : IOK WB AD SR FW TB md_X3_addDuty 48 (.iload 4, 0, 0, 0, []) := io_plain (by decide +kernel) rfl
theorem r_X3_addDuty_50 : IOK WB AD SR FW TB md_X3_addDuty 50 (.ireturn, 0, 0, 0, []) := io_plain (by decide +kernel) rfl
set_option maxRecDepth 100000 in
theorem ok_X3_addDuty_0 : ∀ q ∈ tl_X3_addDuty, IOK WB AD SR FW TB md_X3_addDuty q.1 q.2 := fun _ h => absurd h List.not_mem_nil
set_option maxRecDepth 100000 in
theorem tq_X3_addDuty_0 : tf_X3_addDuty = tl_X3_addDuty.map (fun q => (q.1, stepOf NPf md_X3_addDuty q.2)) := rfl
theorem ro_X3_addDuty : RowsOK (md_X3_addDuty, tl_X3_addDuty) tf_X3_addDuty := ⟨tq_X3_addDuty_0, ok_X3_addDuty_0⟩
theorem r_X3_meetArguments_0 : IOK WB AD SR FW TB md_X3_meetArguments 0 (.aload_n 0, 0, 0, 0, []) := io_plain (by decide +kernel) rfl
theorem r_X3_meetArguments_1 : IOK WB AD SR FW TB md_X3_meetArguments 1 (.getfield 96, 4, 12, 0, []) := io_get (by decide +kernel) fo_RX3_96
theorem r_X3_meetArguments_4 : IOK WB AD SR FW TB md_X3_meetArguments 4 (.istore 4, 0, 0, 0, []) := io_plain (by decide +kernel) rfl
theorem r_X3_meetArguments_6 : IOK WB AD SR FW TB md_X3_meetArguments 6 (.aload_n 0, 0, 0, 0, []) := io_plain (by decide +kernel) rfl
theorem r_X3_meetArguments_7 : IOK WB AD SR FW TB md_X3_meetArguments 7 (.getfield 35, 4, 11, 2, []) := io_get (by decide +kernel) fo_RX3_35
theorem r_X3_meetArguments_10 : IOK WB AD SR FW TB md_X3_meetArguments 10 (.iload_n 1, 0, 0, 0, []) := io_plain (by decide +kernel) rfl
theorem r_X3_meetArguments_11 : IOK WB AD SR FW TB md_X3_meetArguments 11 (.iaload, 0, 0, 0, []) := io_plain (by decide +kernel) rfl
theorem r_X3_meetArguments_12 : IOK WB AD SR FW TB md_X3_meetArguments 12 (.istore 5, 0, 0, 0, []) := io_plain (by decide +kernel) rfl
theorem r_X3_meetArguments_14 : IOK WB AD SR FW TB md_X3_meetArguments 14 (.aload_n 0, 0, 0, 0, []) := io_plain (by decide +kernel) rfl
theorem r_X3_meetArguments_15 : IOK WB AD SR FW TB md_X3_meetArguments 15 (.getfield 20, 4, 6, 2, []) := io_get (by decide +kernel) fo_RX3_20
theorem r_X3_meetArguments_18 : IOK WB AD SR FW TB md_X3_meetArguments 18 (.iload_n 1, 0, 0, 0, []) := io_plain (by decide +kernel) rfl
theorem r_X3_meetArguments_19 : IOK WB AD SR FW TB md_X3_meetArguments 19 (.iaload, 0, 0, 0, []) := io_plain (by decide +kernel) rfl
theorem r_X3_meetArguments_20 : IOK WB AD SR FW TB md_X3_meetArguments 20 (.iconst 1, 0, 0, 0, []) := io_plain (by decide +kernel) rfl
theorem r_X3_meetArguments_21 : IOK WB AD SR FW TB md_X3_meetArguments 21 (.iadd, 0, 0, 0, []) := io_plain (by decide +kernel) rfl
theorem r_X3_meetArguments_22 : IOK WB AD SR FW TB md_X3_meetArguments 22 (.istore 6, 0, 0, 0, []) := io_plain (by decide +kernel) rfl
theorem r_X3_meetArguments_24 : IOK WB AD SR FW TB md_X3_meetArguments 24 (.iconst 0, 0, 0, 0, []) := io_plain (by decide +kernel) rfl
theorem r_X3_meetArguments_25 : IOK WB AD SR FW TB md_X3_meetArguments 25 (.istore 7, 0, 0, 0, []) := io_plain (by decide +kernel) rfl
theorem r_X3_meetArguments_27 : IOK WB AD SR FW TB md_X3_meetArguments 27 (.iload 7, 0, 0, 0, []) := io_plain (by decide +kernel) rfl
theorem r_X3_meetArguments_29 : IOK WB AD SR FW TB md_X3_meetArguments 29 (.iload_n 2, 0, 0, 0, []) := io_plain (by decide +kernel) rfl
theorem r_X3_meetArguments_30 : IOK WB AD SR FW TB md_X3_meetArguments 30 (.if_icmp .ge 62, 0, 0, 0, []) := io_plain (by decide +kernel) rfl
theorem r_X3_meetArguments_92 : IOK WB AD SR FW TB md_X3_meetArguments 92 (.aload_n 0, 0, 0, 0, []) := io_plain (by decide +kernel) rfl
theorem r_X3_meetArguments_93 : IOK WB AD SR FW TB md_X3_meetArguments 93 (.iload 5, 0, 0, 0, []) := io_plain (by decide +kernel) rfl
theorem r_X3_meetArguments_95 : IOK WB AD SR FW TB md_X3_meetArguments 95 (.invokevirtual 118, 42, 4, 0, []) := io_virt (by decide +kernel) tb_X3_solve (Or.inl (wb_4 65 rfl rfl)) in_X3_solve se_X3_solve ⟨_, rfl, rfl⟩ pr_X3_solve (by decide)
theorem r_X3_meetArguments_98 : IOK WB AD SR FW TB md_X3_meetArguments 98 (.aload_n 0, 0, 0, 0, []) := io_plain (by decide +kernel) rfl
theorem r_X3_meetArguments_99 : IOK WB AD SR FW TB md_X3_meetArguments 99 (.iload 4, 0, 0, 0, []) := io_plain (by decide +kernel) rfl
theorem r_X3_meetArguments_101 : IOK WB AD SR FW TB md_X3_meetArguments 101 (.putfield 96, 4, 12, 0, []) := io_put (by decide +kernel) fo_RX3_96 po_RX3_0_4_12_0
theorem r_X3_meetArguments_104 : IOK WB AD SR FW TB md_X3_meetArguments 104 (.return_, 0, 0, 0, []) := io_void (by decide +kernel) rfl
set_option maxRecDepth 100000 in
theorem ok_X3_meetArguments_0 : ∀ q ∈ tl_X3_meetArguments, IOK WB AD SR FW TB md_X3_meetArguments q.1 q.2 := fun _ h => absurd h List.not_mem_nil
set_option maxRecDepth 100000 in
theorem tq_X3_meetArguments_0 : tf_X3_meetArguments = tl_X3_meetArguments.map (fun q => (q.1, stepOf NPf md_X3_meetArguments q.2)) := rfl
theorem ro_X3_meetArguments : RowsOK (md_X3_meetArguments, tl_X3_meetArguments) tf_X3_meetArguments := ⟨tq_X3_meetArguments_0, ok_X3_meetArguments_0⟩
theorem r_X17_isBeneath_0 : IOK WB AD SR FW TB md_X17_isBeneath 0 (.aload_n 2, 0, 0, 0, []) := io_plain (by decide +kernel) rfl
theorem r_X17_isBeneath_1 : IOK WB AD SR FW TB md_X17_isBeneath 1 (.getfield 118, 17, 1, 0, []) := io_get (by decide +kernel) fo_RX17_118
theorem r_X17_isBeneath_4 : IOK WB AD SR FW TB md_X17_isBeneath 4 (.istore 4, 0, 0, 0, []) := io_plain (by decide +kernel) rfl
theorem r_X17_isBeneath_6 : IOK WB AD SR FW TB md_X17_isBeneath 6 (.aload_n 3, 0, 0, 0, []) := io_plain (by decide +kernel) rfl
theorem r_X17_isBeneath_7 : IOK WB AD SR FW TB md_X17_isBeneath 7 (.getfield 118, 17, 1, 0, []) := io_get (by decide +kernel) fo_RX17_118
theorem r_X17_isBeneath_10 : IOK WB AD SR FW TB md_X17_isBeneath 10 (.iload 4, 0, 0, 0, []) := io_plain (by decide +kernel) rfl
theorem r_X17_isBeneath_12 : IOK WB AD SR FW TB md_X17_isBeneath 12 (.if_icmp .eq 16, 0, 0, 0, []) := io_plain (by decide +kernel) rfl
theorem r_X17_isBeneath_28 : IOK WB AD SR FW TB md_X17_isBeneath 28 (.aload_n 0, 0, 0, 0, []) := io_plain (by decide +kernel) rfl
theorem r_X17_isBeneath_29 : IOK WB AD SR FW TB md_X17_isBeneath 29 (.getfield 20, 18, 6, 2, []) := io_get (by decide +kernel) fo_RX17_20
theorem r_X17_isBeneath_32 : IOK WB AD SR FW TB md_X17_isBeneath 32 (.iload 4, 0, 0, 0, []) := io_plain (by decide +kernel) rfl
theorem r_X17_isBeneath_34 : IOK WB AD SR FW TB md_X17_isBeneath 34 (.iaload, 0, 0, 0, []) := io_plain (by decide +kernel) rfl
theorem r_X17_isBeneath_35 : IOK WB AD SR FW TB md_X17_isBeneath 35 (.iconst 2, 0, 0, 0, []) := io_plain (by decide +kernel) rfl
theorem r_X17_isBeneath_36 : IOK WB AD SR FW TB md_X17_isBeneath 36 (.if_icmp .lt 23, 0, 0, 0, []) := io_plain (by decide +kernel) rfl
theorem r_X17_isBeneath_59 : IOK WB AD SR FW TB md_X17_isBeneath 59 (.aload_n 0, 0, 0, 0, []) := io_plain (by decide +kernel) rfl
theorem r_X17_isBeneath_60 : IOK WB AD SR FW TB md_X17_isBeneath 60 (.aload_n 0, 0, 0, 0, []) := io_plain (by decide +kernel) rfl
theorem r_X17_isBeneath_61 : IOK WB AD SR FW TB md_X17_isBeneath 61 (.iload_n 1, 0, 0, 0, []) := io_plain (by decide +kernel) rfl
theorem r_X17_isBeneath_62 : IOK WB AD SR FW TB md_X17_isBeneath 62 (.aload_n 2, 0, 0, 0, []) := io_plain (by decide +kernel) rfl
theorem r_X17_isBeneath_63 : IOK WB AD SR FW TB md_X17_isBeneath 63 (.aload_n 3, 0, 0, 0, []) := io_plain (by decide +kernel) rfl
theorem r_X17_isBeneath_64 : IOK WB AD SR FW TB md_X17_isBeneath 64 (.iconst 0, 0, 0, 0, []) := io_plain (by decide +kernel) rfl
theorem r_X17_isBeneath_65 : IOK WB AD SR FW TB md_X17_isBeneath 65 (.invokevirtual 212, 40, 18, 0, []) := io_virt (by decide +kernel) tb_X17_laid (Or.inl (wb_8 226 rfl rfl)) in_X17_laid se_X17_laid ⟨_, rfl, rfl⟩ pr_X17_laid (by decide)
theorem r_X17_isBeneath_68 : IOK WB AD SR FW TB md_X17_isBeneath 68 (.invokevirtual 208, 35, 18, 0, []) := io_virt (by decide +kernel) tb_X17_isEnough (Or.inl (wb_8 172 rfl rfl)) in_X17_isEnough se_X17_isEnough ⟨_, rfl, rfl⟩ pr_X17_isEnough (by decide)
theorem r_X17_isBeneath_71 : IOK WB AD SR FW TB md_X17_isBeneath 71 (.ifCond .ne 29, 0, 0, 0, []) := io_plain (by decide +kernel) rfl
theorem r_X17_isBeneath_100 : IOK WB AD SR FW TB md_X17_isBeneath 100 (.iconst 1, 0, 0, 0, []) := io_plain (by decide +kernel) rfl
theorem r_X17_isBeneath_101 : IOK WB AD SR FW TB md_X17_isBeneath 101 (.goto 4, 0, 0, 0, []) := io_plain (by decide +kernel) rfl
theorem r_X17_isBeneath_105 : IOK WB AD SR FW TB md_X17_isBeneath 105 (.ireturn, 0, 0, 0, []) := io_plain (by decide +kernel) rfl
set_option maxRecDepth 100000 in
theorem ok_X17_isBeneath_0 : ∀ q ∈ tl_X17_isBeneath, IOK WB AD SR FW TB md_X17_isBeneath q.1 q.2 := List.forall_mem_cons.mpr ⟨r_X17_isBeneath_0, List.forall_mem_cons.mpr ⟨r_X17_isBeneath_1, List.forall_mem_cons.mpr ⟨r_X17_isBeneath_4, List.forall_mem_cons.mpr ⟨r_X17_isBeneath_6, List.forall_mem_cons.mpr ⟨r_X17_isBeneath_7, List.forall_mem_cons.mpr ⟨r_X17_isBeneath_10, List.forall_mem_cons.mpr ⟨r_X17_isBeneath_12, List.forall_mem_cons.mpr ⟨r_X17_isBeneath_28, List.forall_mem_cons.mpr ⟨r_X17_isBeneath_29, List.forall_mem_cons.mpr ⟨r_X17_isBeneath_32, List.forall_mem_cons.mpr ⟨r_X17_isBeneath_34, List.forall_mem_cons.mpr ⟨r_X17_isBeneath_35, List.forall_mem_cons.mpr ⟨r_X17_isBeneath_36, List.forall_mem_cons.mpr ⟨r_X17_isBeneath_59, List.forall_mem_cons.mpr ⟨r_X17_isBeneath_60, List.forall_mem_cons.mpr ⟨r_X17_isBeneath_61, List.forall_mem_cons.mpr ⟨r_X17_isBeneath_62, List.forall_mem_cons.mpr ⟨r_X17_isBeneath_63, List.forall_mem_cons.mpr ⟨r_X17_isBeneath_64, List.forall_mem_cons.mpr ⟨r_X17_isBeneath_65, List.forall_mem_cons.mpr ⟨r_X17_isBeneath_68, List.forall_mem_cons.mpr ⟨r_X17_isBeneath_71, List.forall_mem_cons.mpr ⟨r_X17_isBeneath_100, List.forall_mem_cons.mpr ⟨r_X17_isBeneath_101, List.forall_mem_cons.mpr ⟨r_X17_isBeneath_105, fun _ h => absurd h List.not_mem_nil⟩⟩⟩⟩⟩⟩⟩⟩⟩⟩⟩⟩⟩⟩⟩⟩⟩⟩⟩⟩⟩⟩⟩⟩⟩
set_option maxRecDepth 100000 in
theorem tq_X17_isBeneath_0 : tf_X17_isBeneath = tl_X17_isBeneath.map (fun q => (q.1, stepOf NPf md_X17_isBeneath q.2)) := rfl
theorem ro_X17_isBeneath : RowsOK (md_X17_isBeneath, tl_X17_isBeneath) tf_X17_isBeneath := ⟨tq_X17_isBeneath_0, ok_X17_isBeneath_0⟩
theorem r_X10_apply_0 : IOK WB AD SR FW TB md_X10_apply 0 (.aload_n 0, 0, 0, 0, []) := io_plain (by decide +kernel) rfl
theorem r_X10_apply_1 : IOK WB AD SR FW TB md_X10_apply 1 (.getfield 12, 11, 0, 2, []) := io_get (by decide +kernel) fo_RX10_12
theorem r_X10_apply_4 : IOK WB AD SR FW TB md_X10_apply 4 (.iload_n 1, 0, 0, 0, []) := io_plain (by decide +kernel) rfl
theorem r_X10_apply_5 : IOK WB AD SR FW TB md_X10_apply 5 (.invokevirtual 126, 75, 8, 0, []) := io_virt (by decide +kernel) tb_X7_hasOperator (Or.inl (wb_5 91 rfl rfl)) in_X7_hasOperator se_X7_hasOperator ⟨_, rfl, rfl⟩ pr_X7_hasOperator (by decide)
theorem r_X10_apply_8 : IOK WB AD SR FW TB md_X10_apply 8 (.ifCond .ne 13, 0, 0, 0, []) := io_plain (by decide +kernel) rfl
theorem r_X10_apply_21 : IOK WB AD SR FW TB md_X10_apply 21 (.aload_n 0, 0, 0, 0, []) := io_plain (by decide +kernel) rfl
theorem r_X10_apply_22 : IOK WB AD SR FW TB md_X10_apply 22 (.getfield 12, 11, 0, 2, []) := io_get (by decide +kernel) fo_RX10_12
theorem r_X10_apply_25 : IOK WB AD SR FW TB md_X10_apply 25 (.getfield 135, 8, 4, 2, []) := io_get (by decide +kernel) fo_RX10_135
theorem r_X10_apply_28 : IOK WB AD SR FW TB md_X10_apply 28 (.iload_n 1, 0, 0, 0, []) := io_plain (by decide +kernel) rfl
theorem r_X10_apply_29 : IOK WB AD SR FW TB md_X10_apply 29 (.iaload, 0, 0, 0, []) := io_plain (by decide +kernel) rfl
theorem r_X10_apply_30 : IOK WB AD SR FW TB md_X10_apply 30 (.istore_n 2, 0, 0, 0, []) := io_plain (by decide +kernel) rfl
theorem r_X10_apply_31 : IOK WB AD SR FW TB md_X10_apply 31 (.aload_n 0, 0, 0, 0, []) := io_plain (by decide +kernel) rfl
theorem r_X10_apply_32 : IOK WB AD SR FW TB md_X10_apply 32 (.getfield 160, 11, 8, 0, []) := io_get (by decide +kernel) fo_RX10_160
theorem r_X10_apply_35 : IOK WB AD SR FW TB md_X10_apply 35 (.iload_n 2, 0, 0, 0, []) := io_plain (by decide +kernel) rfl
theorem r_X10_apply_36 : IOK WB AD SR FW TB md_X10_apply 36 (.if_icmp .lt 14, 0, 0, 0, []) := io_plain (by decide +kernel) rfl
theorem r_X10_apply_39 : IOK WB AD SR FW TB md_X10_apply 39 (.aload_n 0, 0, 0, 0, []) := io_plain (by decide +kernel) rfl
theorem r_X10_apply_40 : IOK WB AD SR FW TB md_X10_apply 40 (.getfield 160, 11, 8, 0, []) := io_get (by decide +kernel) fo_RX10_160
theorem r_X10_apply_43 : IOK WB AD SR FW TB md_X10_apply 43 (.iload_n 2, 0, 0, 0, []) := io_plain (by decide +kernel) rfl
theorem r_X10_apply_44 : IOK WB AD SR FW TB md_X10_apply 44 (.isub, 0, 0, 0, []) := io_plain (by decide +kernel) rfl
theorem r_X10_apply_45 : IOK WB AD SR FW TB md_X10_apply 45 (.bipush 10, 0, 0, 0, []) := io_plain (by decide +kernel) rfl
theorem r_X10_apply_47 : IOK WB AD SR FW TB md_X10_apply 47 (.if_icmp .lt 13, 0, 0, 0, []) := io_plain (by decide +kernel) rfl
theorem r_X10_apply_60 : IOK WB AD SR FW TB md_X10_apply 60 (.aload_n 0, 0, 0, 0, []) := io_plain (by decide +kernel) rfl
theorem r_X10_apply_61 : IOK WB AD SR FW TB md_X10_apply 61 (.getfield 21, 11, 1, 2, []) := io_get (by decide +kernel) fo_RX10_21
theorem r_X10_apply_64 : IOK WB AD SR FW TB md_X10_apply 64 (.invokevirtual 173, 63, 9, 0, []) := io_virt (by decide +kernel) tb_X8_startAnew (Or.inl (wb_3 128 rfl rfl)) in_X8_startAnew se_X8_startAnew ⟨_, rfl, rfl⟩ pr_X8_startAnew (by decide)
theorem r_X10_apply_67 : IOK WB AD SR FW TB md_X10_apply 67 (.aload_n 0, 0, 0, 0, []) := io_plain (by decide +kernel) rfl
theorem r_X10_apply_68 : IOK WB AD SR FW TB md_X10_apply 68 (.getfield 160, 11, 8, 0, []) := io_get (by decide +kernel) fo_RX10_160
theorem r_X10_apply_71 : IOK WB AD SR FW TB md_X10_apply 71 (.iload_n 2, 0, 0, 0, []) := io_plain (by decide +kernel) rfl
theorem r_X10_apply_72 : IOK WB AD SR FW TB md_X10_apply 72 (.isub, 0, 0, 0, []) := io_plain (by decide +kernel) rfl
theorem r_X10_apply_73 : IOK WB AD SR FW TB md_X10_apply 73 (.istore_n 3, 0, 0, 0, []) := io_plain (by decide +kernel) rfl
theorem r_X10_apply_74 : IOK WB AD SR FW TB md_X10_apply 74 (.iload_n 3, 0, 0, 0, []) := io_plain (by decide +kernel) rfl
theorem r_X10_apply_75 : IOK WB AD SR FW TB md_X10_apply 75 (.aload_n 0, 0, 0, 0, []) := io_plain (by decide +kernel) rfl
theorem r_X10_apply_76 : IOK WB AD SR FW TB md_X10_apply 76 (.getfield 160, 11, 8, 0, []) := io_get (by decide +kernel) fo_RX10_160
theorem r_X10_apply_79 : IOK WB AD SR FW TB md_X10_apply 79 (.if_icmp .ge 20, 0, 0, 0, []) := io_plain (by decide +kernel) rfl
theorem r_X10_apply_82 : IOK WB AD SR FW TB md_X10_apply 82 (.aload_n 0, 0, 0, 0, []) := io_plain (by decide +kernel) rfl
theorem r_X10_apply_83 : IOK WB AD SR FW TB md_X10_apply 83 (.getfield 21, 11, 1, 2, []) := io_get (by decide +kernel) fo_RX10_21
theorem r_X10_apply_86 : IOK WB AD SR FW TB md_X10_apply 86 (.iload_n 3, 0, 0, 0, []) := io_plain (by decide +kernel) rfl
theorem r_X10_apply_87 : IOK WB AD SR FW TB md_X10_apply 87 (.invokestatic 176, 68, 11, 0, []) := io_stat (by decide +kernel) tb_X10_stackAt (Or.inl (wb_5 129 rfl rfl)) st_X10_stackAt pr_X10_stackAt
theorem r_X10_apply_90 : IOK WB AD SR FW TB md_X10_apply 90 (.invokevirtual 179, 11, 9, 0, []) := io_virt (by decide +kernel) tb_X8_await (Or.inl (wb_5 142 rfl rfl)) in_X8_await se_X8_await ⟨_, rfl, rfl⟩ pr_X8_await (by decide)
theorem r_X10_apply_93 : IOK WB AD SR FW TB md_X10_apply 93 (.iinc 3 1, 0, 0, 0, []) := io_plain (by decide +kernel) rfl
theorem r_X10_apply_96 : IOK WB AD SR FW TB md_X10_apply 96 (.goto (-22), 0, 0, 0, []) := io_plain (by decide +kernel) rfl
theorem r_X10_apply_99 : IOK WB AD SR FW TB md_X10_apply 99 (.aload_n 0, 0, 0, 0, []) := io_plain (by decide +kernel) rfl
theorem r_X10_apply_100 : IOK WB AD SR FW TB md_X10_apply 100 (.getfield 21, 11, 1, 2, []) := io_get (by decide +kernel) fo_RX10_21
theorem r_X10_apply_103 : IOK WB AD SR FW TB md_X10_apply 103 (.iload_n 1, 0, 0, 0, []) := io_plain (by decide +kernel) rfl
theorem r_X10_apply_104 : IOK WB AD SR FW TB md_X10_apply 104 (.iconst 0, 0, 0, 0, []) := io_plain (by decide +kernel) rfl
theorem r_X10_apply_105 : IOK WB AD SR FW TB md_X10_apply 105 (.invokevirtual 183, 2, 9, 0, []) := io_virt (by decide +kernel) tb_X8_putOn (Or.inl (wb_5 143 rfl rfl)) in_X8_putOn se_X8_putOn ⟨_, rfl, rfl⟩ pr_X8_putOn (by decide)
theorem r_X10_apply_108 : IOK WB AD SR FW TB md_X10_apply 108 (.istore_n 3, 0, 0, 0, []) := io_plain (by decide +kernel) rfl
theorem r_X10_apply_109 : IOK WB AD SR FW TB md_X10_apply 109 (.iload_n 3, 0, 0, 0, []) := io_plain (by decide +kernel) rfl
theorem r_X10_apply_110 : IOK WB AD SR FW TB md_X10_apply 110 (.ifCond .ge 13, 0, 0, 0, []) := io_plain (by decide +kernel) rfl
theorem r_X10_apply_123 : IOK WB AD SR FW TB md_X10_apply 123 (.aload_n 0, 0, 0, 0, []) := io_plain (by decide +kernel) rfl
theorem r_X10_apply_124 : IOK WB AD SR FW TB md_X10_apply 124 (.dup, 0, 0, 0, []) := io_plain (by decide +kernel) rfl
theorem r_X10_apply_125 : IOK WB AD SR FW TB md_X10_apply 125 (.getfield 160, 11, 8, 0, []) := io_get (by decide +kernel) fo_RX10_160
theorem r_X10_apply_128 : IOK WB AD SR FW TB md_X10_apply 128 (.iload_n 2, 0, 0, 0, []) := io_plain (by decide +kernel) rfl
theorem r_X10_apply_129 : IOK WB AD SR FW TB md_X10_apply 129 (.isub, 0, 0, 0, []) := io_plain (by decide +kernel) rfl
theorem r_X10_apply_130 : IOK WB AD SR FW TB md_X10_apply 130 (.putfield 160, 11, 8, 0, []) := io_put (by decide +kernel) fo_RX10_160 po_RX10_0_11_8_0
theorem r_X10_apply_133 : IOK WB AD SR FW TB md_X10_apply 133 (.aload_n 0, 0, 0, 0, []) := io_plain (by decide +kernel) rfl
theorem r_X10_apply_134 : IOK WB AD SR FW TB md_X10_apply 134 (.iload_n 3, 0, 0, 0, []) := io_plain (by decide +kernel) rfl
theorem r_X10_apply_135 : IOK WB AD SR FW TB md_X10_apply 135 (.invokevirtual 165, 62, 11, 0, []) := io_virt (by decide +kernel) tb_X10_push (Or.inl (wb_5 125 rfl rfl)) in_X10_push se_X10_push ⟨_, rfl, rfl⟩ pr_X10_push (by decide)
theorem r_X10_apply_138 : IOK WB AD SR FW TB md_X10_apply 138 (.ireturn, 0, 0, 0, []) := io_plain (by decide +kernel) rfl
set_option maxRecDepth 100000 in
theorem ok_X10_apply_0 : ∀ q ∈ tl_X10_apply_0, IOK WB AD SR FW TB md_X10_apply q.1 q.2 := List.forall_mem_cons.mpr ⟨r_X10_apply_0, List.forall_mem_cons.mpr ⟨r_X10_apply_1, List.forall_mem_cons.mpr ⟨r_X10_apply_4, List.forall_mem_cons.mpr ⟨r_X10_apply_5, List.forall_mem_cons.mpr ⟨r_X10_apply_8, List.forall_mem_cons.mpr ⟨r_X10_apply_21, List.forall_mem_cons.mpr ⟨r_X10_apply_22, List.forall_mem_cons.mpr ⟨r_X10_apply_25, List.forall_mem_cons.mpr ⟨r_X10_apply_28, List.forall_mem_cons.mpr ⟨r_X10_apply_29, List.forall_mem_cons.mpr ⟨r_X10_apply_30, List.forall_mem_cons.mpr ⟨r_X10_apply_31, List.forall_mem_cons.mpr ⟨r_X10_apply_32, List.forall_mem_cons.mpr ⟨r_X10_apply_35, List.forall_mem_cons.mpr ⟨r_X10_apply_36, List.forall_mem_cons.mpr ⟨r_X10_apply_39, List.forall_mem_cons.mpr ⟨r_X10_apply_40, List.forall_mem_cons.mpr ⟨r_X10_apply_43, List.forall_mem_cons.mpr ⟨r_X10_apply_44, List.forall_mem_cons.mpr ⟨r_X10_apply_45, List.forall_mem_cons.mpr ⟨r_X10_apply_47, List.forall_mem_cons.mpr ⟨r_X10_apply_60, List.forall_mem_cons.mpr ⟨r_X10_apply_61, List.forall_mem_cons.mpr ⟨r_X10_apply_64, List.forall_mem_cons.mpr ⟨r_X10_apply_67, List.forall_mem_cons.mpr ⟨r_X10_apply_68, List.forall_mem_cons.mpr ⟨r_X10_apply_71, List.forall_mem_cons.mpr ⟨r_X10_apply_72, List.forall_mem_cons.mpr ⟨r_X10_apply_73, List.forall_mem_cons.mpr ⟨r_X10_apply_74, List.forall_mem_cons.mpr ⟨r_X10_apply_75, List.forall_mem_cons.mpr ⟨r_X10_apply_76, List.forall_mem_cons.mpr ⟨r_X10_apply_79, List.forall_mem_cons.mpr ⟨r_X10_apply_82, List.forall_mem_cons.mpr ⟨r_X10_apply_83, List.forall_mem_cons.mpr ⟨r_X10_apply_86, List.forall_mem_cons.mpr ⟨r_X10_apply_87, List.forall_mem_cons.mpr ⟨r_X10_apply_90, List.forall_mem_cons.mpr ⟨r_X10_apply_93, List.forall_mem_cons.mpr ⟨r_X10_apply_96, fun _ h => absurd h List.not_mem_nil⟩⟩⟩⟩⟩⟩⟩⟩⟩⟩⟩⟩⟩⟩⟩⟩⟩⟩⟩⟩⟩⟩⟩⟩⟩⟩⟩⟩⟩⟩⟩⟩⟩⟩⟩⟩⟩⟩⟩⟩
set_option maxRecDepth 100000 in
theorem tq_X10_apply_0 : tf_X10_apply_0 = tl_X10_apply_0.map (fun q => (q.1, stepOf NPf md_X10_apply q.2)) := rfl
set_option maxRecDepth 100000 in
theorem ok_X10_apply_1 : ∀ q ∈ tl_X10_apply_1, IOK WB AD SR FW TB md_X10_apply q.1 q.2 := List.forall_mem_cons.mpr ⟨r_X10_apply_99, List.forall_mem_cons.mpr ⟨r_X10_apply_100, List.forall_mem_cons.mpr ⟨r_X10_apply_103, List.forall_mem_cons.mpr ⟨r_X10_apply_104, List.forall_mem_cons.mpr ⟨r_X10_apply_105, List.forall_mem_cons.mpr ⟨r_X10_apply_108, List.forall_mem_cons.mpr ⟨r_X10_apply_109, List.forall_mem_cons.mpr ⟨r_X10_apply_110, List.forall_mem_cons.mpr ⟨r_X10_apply_123, List.forall_mem_cons.mpr ⟨r_X10_apply_124, List.forall_mem_cons.mpr ⟨r_X10_apply_125, List.forall_mem_cons.mpr ⟨r_X10_apply_128, List.forall_mem_cons.mpr ⟨r_X10_apply_129, List.forall_mem_cons.mpr ⟨r_X10_apply_130, List.forall_mem_cons.mpr ⟨r_X10_apply_133, List.forall_mem_cons.mpr ⟨r_X10_apply_134, List.forall_mem_cons.mpr ⟨r_X10_apply_135, List.forall_mem_cons.mpr ⟨r_X10_apply_138, fun _ h => absurd h List.not_mem_nil⟩⟩⟩⟩⟩⟩⟩⟩⟩⟩⟩⟩⟩⟩⟩⟩⟩⟩
set_option maxRecDepth 100000 in
theorem tq_X10_apply_1 : tf_X10_apply_1 = tl_X10_apply_1.map (fun q => (q.1, stepOf NPf md_X10_apply q.2)) := rfl
theorem ro_X10_apply : RowsOK (md_X10_apply, tl_X10_apply) tf_X10_apply := rows_app ⟨tq_X10_apply_0, ok_X10_apply_0⟩ (⟨tq_X10_apply_1, ok_X10_apply_1⟩)
theorem r_X7_resultOf_0 : IOK WB AD SR FW TB md_X7_resultOf 0 (.aload_n 0, 0, 0, 0, []) := io_plain (by decide +kernel) rfl
theorem r_X7_resultOf_1 : IOK WB AD SR FW TB md_X7_resultOf 1 (.getfield 18, 8, 4, 2, []) := io_get (by decide +kernel) fo_RX7_18
theorem r_X7_resultOf_4 : IOK WB AD SR FW TB md_X7_resultOf 4 (.iload_n 1, 0, 0, 0, []) := io_plain (by decide +kernel) rfl
theorem r_X7_resultOf_5 : IOK WB AD SR FW TB md_X7_resultOf 5 (.iaload, 0, 0, 0, []) := io_plain (by decide +kernel) rfl
theorem r_X7_resultOf_6 : IOK WB AD SR FW TB md_X7_resultOf 6 (.istore 5, 0, 0, 0, []) := io_plain (by decide +kernel) rfl
theorem r_X7_resultOf_8 : IOK WB AD SR FW TB md_X7_resultOf 8 (.iconst 0, 0, 0, 0, []) := io_plain (by decide +kernel) rfl
theorem r_X7_resultOf_9 : IOK WB AD SR FW TB md_X7_resultOf 9 (.istore 6, 0, 0, 0, []) := io_plain (by decide +kernel) rfl
theorem r_X7_resultOf_11 : IOK WB AD SR FW TB md_X7_resultOf 11 (.iload 6, 0, 0, 0, []) := io_plain (by decide +kernel) rfl
theorem r_X7_resultOf_13 : IOK WB AD SR FW TB md_X7_resultOf 13 (.aload_n 0, 0, 0, 0, []) := io_plain (by decide +kernel) rfl
theorem r_X7_resultOf_14 : IOK WB AD SR FW TB md_X7_resultOf 14 (.getfield 27, 8, 7, 2, []) := io_get (by decide +kernel) fo_RX7_27
theorem r_X7_resultOf_17 : IOK WB AD SR FW TB md_X7_resultOf 17 (.iload_n 1, 0, 0, 0, []) := io_plain (by decide +kernel) rfl
theorem r_X7_resultOf_18 : IOK WB AD SR FW TB md_X7_resultOf 18 (.iaload, 0, 0, 0, []) := io_plain (by decide +kernel) rfl
theorem r_X7_resultOf_19 : IOK WB AD SR FW TB md_X7_resultOf 19 (.if_icmp .ge 189, 0, 0, 0, []) := io_plain (by decide +kernel) rfl
theorem r_X7_resultOf_208 : IOK WB AD SR FW TB md_X7_resultOf 208 (.iconst (-1), 0, 0, 0, []) := io_plain (by decide +kernel) rfl
theorem r_X7_resultOf_209 : IOK WB AD SR FW TB md_X7_resultOf 209 (.ireturn, 0, 0, 0, []) := io_plain (by decide +kernel) rfl
set_option maxRecDepth 100000 in
theorem ok_X7_resultOf_0 : ∀ q ∈ tl_X7_resultOf, IOK WB AD SR FW TB md_X7_resultOf q.1 q.2 := fun _ h => absurd h List.not_mem_nil
set_option maxRecDepth 100000 in
theorem tq_X7_resultOf_0 : tf_X7_resultOf = tl_X7_resultOf.map (fun q => (q.1, stepOf NPf md_X7_resultOf q.2)) := rfl
theorem ro_X7_resultOf : RowsOK (md_X7_resultOf, tl_X7_resultOf) tf_X7_resultOf := ⟨tq_X7_resultOf_0, ok_X7_resultOf_0⟩
theorem r_X17_init_0 : IOK WB AD SR FW TB md_X17_init 0 (.aload_n 0, 0, 0, 0, []) := io_plain (by decide +kernel) rfl
theorem r_X17_init_1 : IOK WB AD SR FW TB md_X17_init 1 (.invokespecial 1, 1000, 0, 0, []) := io_obj (by decide +kernel) (wb_7 45 rfl rfl) ob_1 ob_2
theorem r_X17_init_4 : IOK WB AD SR FW TB md_X17_init 4 (.aload_n 0, 0, 0, 0, []) := io_plain (by decide +kernel) rfl
theorem r_X17_init_5 : IOK WB AD SR FW TB md_X17_init 5 (.bipush 64, 0, 0, 0, []) := io_plain (by decide +kernel) rfl
theorem r_X17_init_7 : IOK WB AD SR FW TB md_X17_init 7 (.newarray .boolean, 1, 0, 0, []) := io_newa (by decide +kernel) (Or.inr (Or.inl ⟨rfl, rfl⟩)) ac_boolean
theorem r_X17_init_9 : IOK WB AD SR FW TB md_X17_init 9 (.putfield 7, 18, 2, 2, []) := io_put (by decide +kernel) fo_RX17_7 po_RX17_1_18_2_2
theorem r_X17_init_12 : IOK WB AD SR FW TB md_X17_init 12 (.aload_n 0, 0, 0, 0, []) := io_plain (by decide +kernel) rfl
theorem r_X17_init_13 : IOK WB AD SR FW TB md_X17_init 13 (.bipush 10, 0, 0, 0, []) := io_plain (by decide +kernel) rfl
theorem r_X17_init_15 : IOK WB AD SR FW TB md_X17_init 15 (.newarray .int, 0, 0, 0, []) := io_newa (by decide +kernel) (Or.inl ⟨rfl, rfl⟩) ac_int
theorem r_X17_init_17 : IOK WB AD SR FW TB md_X17_init 17 (.putfield 13, 18, 3, 2, []) := io_put (by decide +kernel) fo_RX17_13 po_RX17_1_18_3_2
theorem r_X17_init_20 : IOK WB AD SR FW TB md_X17_init 20 (.aload_n 0, 0, 0, 0, []) := io_plain (by decide +kernel) rfl
theorem r_X17_init_21 : IOK WB AD SR FW TB md_X17_init 21 (.bipush 16, 0, 0, 0, []) := io_plain (by decide +kernel) rfl
theorem r_X17_init_23 : IOK WB AD SR FW TB md_X17_init 23 (.newarray .int, 0, 0, 0, []) := io_newa (by decide +kernel) (Or.inl ⟨rfl, rfl⟩) ac_int
theorem r_X17_init_25 : IOK WB AD SR FW TB md_X17_init 25 (.putfield 17, 18, 5, 2, []) := io_put (by decide +kernel) fo_RX17_17 po_RX17_1_18_5_2
theorem r_X17_init_28 : IOK WB AD SR FW TB md_X17_init 28 (.aload_n 0, 0, 0, 0, []) := io_plain (by decide +kernel) rfl
theorem r_X17_init_29 : IOK WB AD SR FW TB md_X17_init 29 (.bipush 16, 0, 0, 0, []) := io_plain (by decide +kernel) rfl
theorem r_X17_init_31 : IOK WB AD SR FW TB md_X17_init 31 (.newarray .int, 0, 0, 0, []) := io_newa (by decide +kernel) (Or.inl ⟨rfl, rfl⟩) ac_int
theorem r_X17_init_33 : IOK WB AD SR FW TB md_X17_init 33 (.putfield 20, 18, 6, 2, []) := io_put (by decide +kernel) fo_RX17_20 po_RX17_1_18_6_2
theorem r_X17_init_36 : IOK WB AD SR FW TB md_X17_init 36 (.aload_n 0, 0, 0, 0, []) := io_plain (by decide +kernel) rfl
theorem r_X17_init_37 : IOK WB AD SR FW TB md_X17_init 37 (.bipush 16, 0, 0, 0, []) := io_plain (by decide +kernel) rfl
theorem r_X17_init_39 : IOK WB AD SR FW TB md_X17_init 39 (.newarray .int, 0, 0, 0, []) := io_newa (by decide +kernel) (Or.inl ⟨rfl, rfl⟩) ac_int
theorem r_X17_init_41 : IOK WB AD SR FW TB md_X17_init 41 (.putfield 23, 18, 7, 2, []) := io_put (by decide +kernel) fo_RX17_23 po_RX17_1_18_7_2
theorem r_X17_init_44 : IOK WB AD SR FW TB md_X17_init 44 (.aload_n 0, 0, 0, 0, []) := io_plain (by decide +kernel) rfl
theorem r_X17_init_45 : IOK WB AD SR FW TB md_X17_init 45 (.bipush 16, 0, 0, 0, []) := io_plain (by decide +kernel) rfl
theorem r_X17_init_47 : IOK WB AD SR FW TB md_X17_init 47 (.newarray .int, 0, 0, 0, []) := io_newa (by decide +kernel) (Or.inl ⟨rfl, rfl⟩) ac_int
theorem r_X17_init_49 : IOK WB AD SR FW TB md_X17_init 49 (.putfield 26, 18, 8, 2, []) := io_put (by decide +kernel) fo_RX17_26 po_RX17_1_18_8_2
theorem r_X17_init_52 : IOK WB AD SR FW TB md_X17_init 52 (.aload_n 0, 0, 0, 0, []) := io_plain (by decide +kernel) rfl
theorem r_X17_init_53 : IOK WB AD SR FW TB md_X17_init 53 (.bipush 48, 0, 0, 0, []) := io_plain (by decide +kernel) rfl
theorem r_X17_init_55 : IOK WB AD SR FW TB md_X17_init 55 (.newarray .int, 0, 0, 0, []) := io_newa (by decide +kernel) (Or.inl ⟨rfl, rfl⟩) ac_int
theorem r_X17_init_57 : IOK WB AD SR FW TB md_X17_init 57 (.putfield 29, 18, 9, 2, []) := io_put (by decide +kernel) fo_RX17_29 po_RX17_1_18_9_2
theorem r_X17_init_60 : IOK WB AD SR FW TB md_X17_init 60 (.aload_n 0, 0, 0, 0, []) := io_plain (by decide +kernel) rfl
theorem r_X17_init_61 : IOK WB AD SR FW TB md_X17_init 61 (.sipush 144, 0, 0, 0, []) := io_plain (by decide +kernel) rfl
theorem r_X17_init_64 : IOK WB AD SR FW TB md_X17_init 64 (.newarray .int, 0, 0, 0, []) := io_newa (by decide +kernel) (Or.inl ⟨rfl, rfl⟩) ac_int
theorem r_X17_init_66 : IOK WB AD SR FW TB md_X17_init 66 (.putfield 32, 18, 10, 2, []) := io_put (by decide +kernel) fo_RX17_32 po_RX17_1_18_10_2
theorem r_X17_init_69 : IOK WB AD SR FW TB md_X17_init 69 (.aload_n 0, 0, 0, 0, []) := io_plain (by decide +kernel) rfl
theorem r_X17_init_70 : IOK WB AD SR FW TB md_X17_init 70 (.bipush 64, 0, 0, 0, []) := io_plain (by decide +kernel) rfl
theorem r_X17_init_72 : IOK WB AD SR FW TB md_X17_init 72 (.newarray .int, 0, 0, 0, []) := io_newa (by decide +kernel) (Or.inl ⟨rfl, rfl⟩) ac_int
theorem r_X17_init_74 : IOK WB AD SR FW TB md_X17_init 74 (.putfield 35, 18, 11, 2, []) := io_put (by decide +kernel) fo_RX17_35 po_RX17_1_18_11_2
theorem r_X17_init_77 : IOK WB AD SR FW TB md_X17_init 77 (.aload_n 0, 0, 0, 0, []) := io_plain (by decide +kernel) rfl
theorem r_X17_init_78 : IOK WB AD SR FW TB md_X17_init 78 (.bipush 16, 0, 0, 0, []) := io_plain (by decide +kernel) rfl
theorem r_X17_init_80 : IOK WB AD SR FW TB md_X17_init 80 (.newarray .int, 0, 0, 0, []) := io_newa (by decide +kernel) (Or.inl ⟨rfl, rfl⟩) ac_int
theorem r_X17_init_82 : IOK WB AD SR FW TB md_X17_init 82 (.putfield 38, 18, 12, 2, []) := io_put (by decide +kernel) fo_RX17_38 po_RX17_1_18_12_2
theorem r_X17_init_85 : IOK WB AD SR FW TB md_X17_init 85 (.aload_n 0, 0, 0, 0, []) := io_plain (by decide +kernel) rfl
theorem r_X17_init_86 : IOK WB AD SR FW TB md_X17_init 86 (.new 41, 0, 0, 0, [0, 2, 0]) := io_new (by decide +kernel) rfl no_RX17_41
theorem r_X17_init_89 : IOK WB AD SR FW TB md_X17_init 89 (.dup, 0, 0, 0, []) := io_plain (by decide +kernel) rfl
theorem r_X17_init_90 : IOK WB AD SR FW TB md_X17_init 90 (.invokespecial 43, 87, 0, 0, []) := io_spec (by decide +kernel) tb_Jx4a65c_init_da8c8 (Or.inl (wb_7 48 rfl rfl)) in_Jx4a65c_init_da8c8 rfl rfl rfl pr_Jx4a65c_init_da8c8 (by decide)
theorem r_X17_init_93 : IOK WB AD SR FW TB md_X17_init 93 (.putfield 44, 18, 13, 2, []) := io_put (by decide +kernel) fo_RX17_44 po_RX17_1_18_13_2
theorem r_X17_init_96 : IOK WB AD SR FW TB md_X17_init 96 (.aload_n 0, 0, 0, 0, []) := io_plain (by decide +kernel) rfl
theorem r_X17_init_97 : IOK WB AD SR FW TB md_X17_init 97 (.bipush 20, 0, 0, 0, []) := io_plain (by decide +kernel) rfl
theorem r_X17_init_99 : IOK WB AD SR FW TB md_X17_init 99 (.anewarray 48, 0, 0, 0, []) := io_newq (by decide +kernel) (by decide) (wb_7 72 rfl rfl)
theorem r_X17_init_102 : IOK WB AD SR FW TB md_X17_init 102 (.putfield 50, 18, 14, 2, []) := io_put (by decide +kernel) fo_RX17_50 po_RX17_1_18_14_2
theorem r_X17_init_105 : IOK WB AD SR FW TB md_X17_init 105 (.aload_n 0, 0, 0, 0, []) := io_plain (by decide +kernel) rfl
theorem r_X17_init_106 : IOK WB AD SR FW TB md_X17_init 106 (.new 41, 0, 0, 0, [0, 2, 0]) := io_new (by decide +kernel) rfl no_RX17_41
theorem r_X17_init_109 : IOK WB AD SR FW TB md_X17_init 109 (.dup, 0, 0, 0, []) := io_plain (by decide +kernel) rfl
theorem r_X17_init_110 : IOK WB AD SR FW TB md_X17_init 110 (.invokespecial 43, 87, 0, 0, []) := io_spec (by decide +kernel) tb_Jx4a65c_init_da8c8 (Or.inl (wb_7 48 rfl rfl)) in_Jx4a65c_init_da8c8 rfl rfl rfl pr_Jx4a65c_init_da8c8 (by decide)
theorem r_X17_init_113 : IOK WB AD SR FW TB md_X17_init 113 (.putfield 54, 18, 15, 2, []) := io_put (by decide +kernel) fo_RX17_54 po_RX17_1_18_15_2
theorem r_X17_init_116 : IOK WB AD SR FW TB md_X17_init 116 (.aload_n 0, 0, 0, 0, []) := io_plain (by decide +kernel) rfl
theorem r_X17_init_117 : IOK WB AD SR FW TB md_X17_init 117 (.new 41, 0, 0, 0, [0, 2, 0]) := io_new (by decide +kernel) rfl no_RX17_41
theorem r_X17_init_120 : IOK WB AD SR FW TB md_X17_init 120 (.dup, 0, 0, 0, []) := io_plain (by decide +kernel) rfl
theorem r_X17_init_121 : IOK WB AD SR FW TB md_X17_init 121 (.invokespecial 43, 87, 0, 0, []) := io_spec (by decide +kernel) tb_Jx4a65c_init_da8c8 (Or.inl (wb_7 48 rfl rfl)) in_Jx4a65c_init_da8c8 rfl rfl rfl pr_Jx4a65c_init_da8c8 (by decide)
theorem r_X17_init_124 : IOK WB AD SR FW TB md_X17_init 124 (.putfield 57, 18, 16, 2, []) := io_put (by decide +kernel) fo_RX17_57 po_RX17_1_18_16_2
theorem r_X17_init_127 : IOK WB AD SR FW TB md_X17_init 127 (.aload_n 0, 0, 0, 0, []) := io_plain (by decide +kernel) rfl
theorem r_X17_init_128 : IOK WB AD SR FW TB md_X17_init 128 (.new 41, 0, 0, 0, [0, 2, 0]) := io_new (by decide +kernel) rfl no_RX17_41
theorem r_X17_init_131 : IOK WB AD SR FW TB md_X17_init 131 (.dup, 0, 0, 0, []) := io_plain (by decide +kernel) rfl
theorem r_X17_init_132 : IOK WB AD SR FW TB md_X17_init 132 (.invokespecial 43, 87, 0, 0, []) := io_spec (by decide +kernel) tb_Jx4a65c_init_da8c8 (Or.inl (wb_7 48 rfl rfl)) in_Jx4a65c_init_da8c8 rfl rfl rfl pr_Jx4a65c_init_da8c8 (by decide)
theorem r_X17_init_135 : IOK WB AD SR FW TB md_X17_init 135 (.putfield 60, 18, 17, 2, []) := io_put (by decide +kernel) fo_RX17_60 po_RX17_1_18_17_2
theorem r_X17_init_138 : IOK WB AD SR FW TB md_X17_init 138 (.aload_n 0, 0, 0, 0, []) := io_plain (by decide +kernel) rfl
theorem r_X17_init_139 : IOK WB AD SR FW TB md_X17_init 139 (.new 41, 0, 0, 0, [0, 2, 0]) := io_new (by decide +kernel) rfl no_RX17_41
theorem r_X17_init_142 : IOK WB AD SR FW TB md_X17_init 142 (.dup, 0, 0, 0, []) := io_plain (by decide +kernel) rfl
theorem r_X17_init_143 : IOK WB AD SR FW TB md_X17_init 143 (.invokespecial 43, 87, 0, 0, []) := io_spec (by decide +kernel) tb_Jx4a65c_init_da8c8 (Or.inl (wb_7 48 rfl rfl)) in_Jx4a65c_init_da8c8 rfl rfl rfl pr_Jx4a65c_init_da8c8 (by decide)
theorem r_X17_init_146 : IOK WB AD SR FW TB md_X17_init 146 (.putfield 63, 18, 20, 2, []) := io_put (by decide +kernel) fo_RX17_63 po_RX17_1_18_20_2
theorem r_X17_init_149 : IOK WB AD SR FW TB md_X17_init 149 (.aload_n 0, 0, 0, 0, []) := io_plain (by decide +kernel) rfl
theorem r_X17_init_150 : IOK WB AD SR FW TB md_X17_init 150 (.bipush 24, 0, 0, 0, []) := io_plain (by decide +kernel) rfl
theorem r_X17_init_152 : IOK WB AD SR FW TB md_X17_init 152 (.newarray .int, 0, 0, 0, []) := io_newa (by decide +kernel) (Or.inl ⟨rfl, rfl⟩) ac_int
theorem r_X17_init_154 : IOK WB AD SR FW TB md_X17_init 154 (.putfield 66, 18, 21, 2, []) := io_put (by decide +kernel) fo_RX17_66 po_RX17_1_18_21_2
theorem r_X17_init_157 : IOK WB AD SR FW TB md_X17_init 157 (.aload_n 0, 0, 0, 0, []) := io_plain (by decide +kernel) rfl
theorem r_X17_init_158 : IOK WB AD SR FW TB md_X17_init 158 (.sipush 576, 0, 0, 0, []) := io_plain (by decide +kernel) rfl
theorem r_X17_init_161 : IOK WB AD SR FW TB md_X17_init 161 (.newarray .boolean, 1, 0, 0, []) := io_newa (by decide +kernel) (Or.inr (Or.inl ⟨rfl, rfl⟩)) ac_boolean
theorem r_X17_init_163 : IOK WB AD SR FW TB md_X17_init 163 (.putfield 69, 18, 22, 2, []) := io_put (by decide +kernel) fo_RX17_69 po_RX17_1_18_22_2
theorem r_X17_init_166 : IOK WB AD SR FW TB md_X17_init 166 (.aload_n 0, 0, 0, 0, []) := io_plain (by decide +kernel) rfl
theorem r_X17_init_167 : IOK WB AD SR FW TB md_X17_init 167 (.iconst 0, 0, 0, 0, []) := io_plain (by decide +kernel) rfl
theorem r_X17_init_168 : IOK WB AD SR FW TB md_X17_init 168 (.anewarray 48, 0, 0, 0, []) := io_newq (by decide +kernel) (by decide) (wb_7 72 rfl rfl)
theorem r_X17_init_171 : IOK WB AD SR FW TB md_X17_init 171 (.putfield 72, 18, 28, 2, []) := io_put (by decide +kernel) fo_RX17_72 po_RX17_1_18_28_2
theorem r_X17_init_174 : IOK WB AD SR FW TB md_X17_init 174 (.aload_n 0, 0, 0, 0, []) := io_plain (by decide +kernel) rfl
theorem r_X17_init_175 : IOK WB AD SR FW TB md_X17_init 175 (.bipush 20, 0, 0, 0, []) := io_plain (by decide +kernel) rfl
theorem r_X17_init_177 : IOK WB AD SR FW TB md_X17_init 177 (.anewarray 48, 0, 0, 0, []) := io_newq (by decide +kernel) (by decide) (wb_7 72 rfl rfl)
theorem r_X17_init_180 : IOK WB AD SR FW TB md_X17_init 180 (.putfield 75, 18, 29, 2, []) := io_put (by decide +kernel) fo_RX17_75 po_RX17_1_18_29_2
theorem r_X17_init_183 : IOK WB AD SR FW TB md_X17_init 183 (.aload_n 0, 0, 0, 0, []) := io_plain (by decide +kernel) rfl
theorem r_X17_init_184 : IOK WB AD SR FW TB md_X17_init 184 (.bipush 20, 0, 0, 0, []) := io_plain (by decide +kernel) rfl
theorem r_X17_init_186 : IOK WB AD SR FW TB md_X17_init 186 (.anewarray 48, 0, 0, 0, []) := io_newq (by decide +kernel) (by decide) (wb_7 72 rfl rfl)
theorem r_X17_init_189 : IOK WB AD SR FW TB md_X17_init 189 (.putfield 78, 18, 30, 2, []) := io_put (by decide +kernel) fo_RX17_78 po_RX17_1_18_30_2
theorem r_X17_init_192 : IOK WB AD SR FW TB md_X17_init 192 (.aload_n 0, 0, 0, 0, []) := io_plain (by decide +kernel) rfl
theorem r_X17_init_193 : IOK WB AD SR FW TB md_X17_init 193 (.bipush 16, 0, 0, 0, []) := io_plain (by decide +kernel) rfl
theorem r_X17_init_195 : IOK WB AD SR FW TB md_X17_init 195 (.anewarray 48, 0, 0, 0, []) := io_newq (by decide +kernel) (by decide) (wb_7 72 rfl rfl)
theorem r_X17_init_198 : IOK WB AD SR FW TB md_X17_init 198 (.putfield 81, 18, 31, 2, []) := io_put (by decide +kernel) fo_RX17_81 po_RX17_1_18_31_2
theorem r_X17_init_201 : IOK WB AD SR FW TB md_X17_init 201 (.aload_n 0, 0, 0, 0, []) := io_plain (by decide +kernel) rfl
theorem r_X17_init_202 : IOK WB AD SR FW TB md_X17_init 202 (.bipush 32, 0, 0, 0, []) := io_plain (by decide +kernel) rfl
theorem r_X17_init_204 : IOK WB AD SR FW TB md_X17_init 204 (.anewarray 48, 0, 0, 0, []) := io_newq (by decide +kernel) (by decide) (wb_7 72 rfl rfl)
theorem r_X17_init_207 : IOK WB AD SR FW TB md_X17_init 207 (.putfield 84, 18, 32, 2, []) := io_put (by decide +kernel) fo_RX17_84 po_RX17_1_18_32_2
theorem r_X17_init_210 : IOK WB AD SR FW TB md_X17_init 210 (.aload_n 0, 0, 0, 0, []) := io_plain (by decide +kernel) rfl
theorem r_X17_init_211 : IOK WB AD SR FW TB md_X17_init 211 (.bipush 32, 0, 0, 0, []) := io_plain (by decide +kernel) rfl
theorem r_X17_init_213 : IOK WB AD SR FW TB md_X17_init 213 (.anewarray 48, 0, 0, 0, []) := io_newq (by decide +kernel) (by decide) (wb_7 72 rfl rfl)
theorem r_X17_init_216 : IOK WB AD SR FW TB md_X17_init 216 (.putfield 87, 18, 33, 2, []) := io_put (by decide +kernel) fo_RX17_87 po_RX17_1_18_33_2
theorem r_X17_init_219 : IOK WB AD SR FW TB md_X17_init 219 (.aload_n 0, 0, 0, 0, []) := io_plain (by decide +kernel) rfl
theorem r_X17_init_220 : IOK WB AD SR FW TB md_X17_init 220 (.bipush 32, 0, 0, 0, []) := io_plain (by decide +kernel) rfl
theorem r_X17_init_222 : IOK WB AD SR FW TB md_X17_init 222 (.newarray .int, 0, 0, 0, []) := io_newa (by decide +kernel) (Or.inl ⟨rfl, rfl⟩) ac_int
theorem r_X17_init_224 : IOK WB AD SR FW TB md_X17_init 224 (.putfield 90, 18, 34, 2, []) := io_put (by decide +kernel) fo_RX17_90 po_RX17_1_18_34_2
theorem r_X17_init_227 : IOK WB AD SR FW TB md_X17_init 227 (.aload_n 0, 0, 0, 0, []) := io_plain (by decide +kernel) rfl
theorem r_X17_init_228 : IOK WB AD SR FW TB md_X17_init 228 (.bipush 32, 0, 0, 0, []) := io_plain (by decide +kernel) rfl
theorem r_X17_init_230 : IOK WB AD SR FW TB md_X17_init 230 (.newarray .int, 0, 0, 0, []) := io_newa (by decide +kernel) (Or.inl ⟨rfl, rfl⟩) ac_int
theorem r_X17_init_232 : IOK WB AD SR FW TB md_X17_init 232 (.putfield 93, 18, 35, 2, []) := io_put (by decide +kernel) fo_RX17_93 po_RX17_1_18_35_2
theorem r_X17_init_235 : IOK WB AD SR FW TB md_X17_init 235 (.aload_n 0, 0, 0, 0, []) := io_plain (by decide +kernel) rfl
theorem r_X17_init_236 : IOK WB AD SR FW TB md_X17_init 236 (.bipush 10, 0, 0, 0, []) := io_plain (by decide +kernel) rfl
theorem r_X17_init_238 : IOK WB AD SR FW TB md_X17_init 238 (.anewarray 48, 0, 0, 0, []) := io_newq (by decide +kernel) (by decide) (wb_7 72 rfl rfl)
theorem r_X17_init_241 : IOK WB AD SR FW TB md_X17_init 241 (.putfield 96, 18, 36, 2, []) := io_put (by decide +kernel) fo_RX17_96 po_RX17_1_18_36_2
theorem r_X17_init_244 : IOK WB AD SR FW TB md_X17_init 244 (.aload_n 0, 0, 0, 0, []) := io_plain (by decide +kernel) rfl
theorem r_X17_init_245 : IOK WB AD SR FW TB md_X17_init 245 (.bipush 10, 0, 0, 0, []) := io_plain (by decide +kernel) rfl
theorem r_X17_init_247 : IOK WB AD SR FW TB md_X17_init 247 (.newarray .int, 0, 0, 0, []) := io_newa (by decide +kernel) (Or.inl ⟨rfl, rfl⟩) ac_int
theorem r_X17_init_249 : IOK WB AD SR FW TB md_X17_init 249 (.putfield 99, 18, 37, 2, []) := io_put (by decide +kernel) fo_RX17_99 po_RX17_1_18_37_2
theorem r_X17_init_252 : IOK WB AD SR FW TB md_X17_init 252 (.aload_n 0, 0, 0, 0, []) := io_plain (by decide +kernel) rfl
theorem r_X17_init_253 : IOK WB AD SR FW TB md_X17_init 253 (.bipush 96, 0, 0, 0, []) := io_plain (by decide +kernel) rfl
theorem r_X17_init_255 : IOK WB AD SR FW TB md_X17_init 255 (.anewarray 48, 0, 0, 0, []) := io_newq (by decide +kernel) (by decide) (wb_7 72 rfl rfl)
theorem r_X17_init_258 : IOK WB AD SR FW TB md_X17_init 258 (.putfield 102, 18, 41, 2, []) := io_put (by decide +kernel) fo_RX17_102 po_RX17_1_18_41_2
theorem r_X17_init_261 : IOK WB AD SR FW TB md_X17_init 261 (.aload_n 0, 0, 0, 0, []) := io_plain (by decide +kernel) rfl
theorem r_X17_init_262 : IOK WB AD SR FW TB md_X17_init 262 (.new 41, 0, 0, 0, [0, 2, 0]) := io_new (by decide +kernel) rfl no_RX17_41
theorem r_X17_init_265 : IOK WB AD SR FW TB md_X17_init 265 (.dup, 0, 0, 0, []) := io_plain (by decide +kernel) rfl
theorem r_X17_init_266 : IOK WB AD SR FW TB md_X17_init 266 (.invokespecial 43, 87, 0, 0, []) := io_spec (by decide +kernel) tb_Jx4a65c_init_da8c8 (Or.inl (wb_7 48 rfl rfl)) in_Jx4a65c_init_da8c8 rfl rfl rfl pr_Jx4a65c_init_da8c8 (by decide)
theorem r_X17_init_269 : IOK WB AD SR FW TB md_X17_init 269 (.putfield 105, 18, 42, 2, []) := io_put (by decide +kernel) fo_RX17_105 po_RX17_1_18_42_2
theorem r_X17_init_272 : IOK WB AD SR FW TB md_X17_init 272 (.aload_n 0, 0, 0, 0, []) := io_plain (by decide +kernel) rfl
theorem r_X17_init_273 : IOK WB AD SR FW TB md_X17_init 273 (.bipush 20, 0, 0, 0, []) := io_plain (by decide +kernel) rfl
theorem r_X17_init_275 : IOK WB AD SR FW TB md_X17_init 275 (.anewarray 48, 0, 0, 0, []) := io_newq (by decide +kernel) (by decide) (wb_7 72 rfl rfl)
theorem r_X17_init_278 : IOK WB AD SR FW TB md_X17_init 278 (.putfield 108, 18, 44, 2, []) := io_put (by decide +kernel) fo_RX17_108 po_RX17_1_18_44_2
theorem r_X17_init_281 : IOK WB AD SR FW TB md_X17_init 281 (.iconst 0, 0, 0, 0, []) := io_plain (by decide +kernel) rfl
theorem r_X17_init_282 : IOK WB AD SR FW TB md_X17_init 282 (.istore_n 1, 0, 0, 0, []) := io_plain (by decide +kernel) rfl
theorem r_X17_init_283 : IOK WB AD SR FW TB md_X17_init 283 (.iload_n 1, 0, 0, 0, []) := io_plain (by decide +kernel) rfl
theorem r_X17_init_284 : IOK WB AD SR FW TB md_X17_init 284 (.bipush 16, 0, 0, 0, []) := io_plain (by decide +kernel) rfl
theorem r_X17_init_286 : IOK WB AD SR FW TB md_X17_init 286 (.if_icmp .ge 16, 0, 0, 0, []) := io_plain (by decide +kernel) rfl
theorem r_X17_init_289 : IOK WB AD SR FW TB md_X17_init 289 (.aload_n 0, 0, 0, 0, []) := io_plain (by decide +kernel) rfl
theorem r_X17_init_290 : IOK WB AD SR FW TB md_X17_init 290 (.getfield 23, 18, 7, 2, []) := io_get (by decide +kernel) fo_RX17_23
theorem r_X17_init_293 : IOK WB AD SR FW TB md_X17_init 293 (.iload_n 1, 0, 0, 0, []) := io_plain (by decide +kernel) rfl
theorem r_X17_init_294 : IOK WB AD SR FW TB md_X17_init 294 (.iconst (-1), 0, 0, 0, []) := io_plain (by decide +kernel) rfl
theorem r_X17_init_295 : IOK WB AD SR FW TB md_X17_init 295 (.iastore, 0, 0, 0, []) := io_plain (by decide +kernel) rfl
theorem r_X17_init_296 : IOK WB AD SR FW TB md_X17_init 296 (.iinc 1 1, 0, 0, 0, []) := io_plain (by decide +kernel) rfl
theorem r_X17_init_299 : IOK WB AD SR FW TB md_X17_init 299 (.goto (-16), 0, 0, 0, []) := io_plain (by decide +kernel) rfl
theorem r_X17_init_302 : IOK WB AD SR FW TB md_X17_init 302 (.iconst 0, 0, 0, 0, []) := io_plain (by decide +kernel) rfl
theorem r_X17_init_303 : IOK WB AD SR FW TB md_X17_init 303 (.istore_n 1, 0, 0, 0, []) := io_plain (by decide +kernel) rfl
theorem r_X17_init_304 : IOK WB AD SR FW TB md_X17_init 304 (.iload_n 1, 0, 0, 0, []) := io_plain (by decide +kernel) rfl
theorem r_X17_init_305 : IOK WB AD SR FW TB md_X17_init 305 (.bipush 20, 0, 0, 0, []) := io_plain (by decide +kernel) rfl
theorem r_X17_init_307 : IOK WB AD SR FW TB md_X17_init 307 (.if_icmp .ge 27, 0, 0, 0, []) := io_plain (by decide +kernel) rfl
theorem r_X17_init_310 : IOK WB AD SR FW TB md_X17_init 310 (.aload_n 0, 0, 0, 0, []) := io_plain (by decide +kernel) rfl
theorem r_X17_init_311 : IOK WB AD SR FW TB md_X17_init 311 (.getfield 75, 18, 29, 2, []) := io_get (by decide +kernel) fo_RX17_75
theorem r_X17_init_314 : IOK WB AD SR FW TB md_X17_init 314 (.iload_n 1, 0, 0, 0, []) := io_plain (by decide +kernel) rfl
theorem r_X17_init_315 : IOK WB AD SR FW TB md_X17_init 315 (.new 48, 17, 0, 0, [0, 0, 2, 0, 0, 2]) := io_new (by decide +kernel) rfl no_RX17_48
theorem r_X17_init_318 : IOK WB AD SR FW TB md_X17_init 318 (.dup, 0, 0, 0, []) := io_plain (by decide +kernel) rfl
theorem r_X17_init_319 : IOK WB AD SR FW TB md_X17_init 319 (.iload_n 1, 0, 0, 0, []) := io_plain (by decide +kernel) rfl
theorem r_X17_init_320 : IOK WB AD SR FW TB md_X17_init 320 (.aload_n 0, 0, 0, 0, []) := io_plain (by decide +kernel) rfl
theorem r_X17_init_321 : IOK WB AD SR FW TB md_X17_init 321 (.getfield 72, 18, 28, 2, []) := io_get (by decide +kernel) fo_RX17_72
theorem r_X17_init_324 : IOK WB AD SR FW TB md_X17_init 324 (.invokespecial 111, 61, 17, 0, []) := io_spec (by decide +kernel) tb_X16_init (Or.inl (wb_7 75 rfl rfl)) in_X16_init rfl rfl rfl pr_X16_init (by decide)
theorem r_X17_init_327 : IOK WB AD SR FW TB md_X17_init 327 (.aastore, 0, 0, 0, []) := io_plain (by decide +kernel) rfl
theorem r_X17_init_328 : IOK WB AD SR FW TB md_X17_init 328 (.iinc 1 1, 0, 0, 0, []) := io_plain (by decide +kernel) rfl
theorem r_X17_init_331 : IOK WB AD SR FW TB md_X17_init 331 (.goto (-27), 0, 0, 0, []) := io_plain (by decide +kernel) rfl
theorem r_X17_init_334 : IOK WB AD SR FW TB md_X17_init 334 (.iconst 0, 0, 0, 0, []) := io_plain (by decide +kernel) rfl
theorem r_X17_init_335 : IOK WB AD SR FW TB md_X17_init 335 (.istore_n 1, 0, 0, 0, []) := io_plain (by decide +kernel) rfl
theorem r_X17_init_336 : IOK WB AD SR FW TB md_X17_init 336 (.iload_n 1, 0, 0, 0, []) := io_plain (by decide +kernel) rfl
theorem r_X17_init_337 : IOK WB AD SR FW TB md_X17_init 337 (.bipush 10, 0, 0, 0, []) := io_plain (by decide +kernel) rfl
theorem r_X17_init_339 : IOK WB AD SR FW TB md_X17_init 339 (.if_icmp .ge 24, 0, 0, 0, []) := io_plain (by decide +kernel) rfl
theorem r_X17_init_342 : IOK WB AD SR FW TB md_X17_init 342 (.aload_n 0, 0, 0, 0, []) := io_plain (by decide +kernel) rfl
theorem r_X17_init_343 : IOK WB AD SR FW TB md_X17_init 343 (.getfield 78, 18, 30, 2, []) := io_get (by decide +kernel) fo_RX17_78
theorem r_X17_init_346 : IOK WB AD SR FW TB md_X17_init 346 (.iload_n 1, 0, 0, 0, []) := io_plain (by decide +kernel) rfl
theorem r_X17_init_347 : IOK WB AD SR FW TB md_X17_init 347 (.aload_n 0, 0, 0, 0, []) := io_plain (by decide +kernel) rfl
theorem r_X17_init_348 : IOK WB AD SR FW TB md_X17_init 348 (.getfield 75, 18, 29, 2, []) := io_get (by decide +kernel) fo_RX17_75
theorem r_X17_init_351 : IOK WB AD SR FW TB md_X17_init 351 (.bipush 10, 0, 0, 0, []) := io_plain (by decide +kernel) rfl
theorem r_X17_init_353 : IOK WB AD SR FW TB md_X17_init 353 (.iload_n 1, 0, 0, 0, []) := io_plain (by decide +kernel) rfl
theorem r_X17_init_354 : IOK WB AD SR FW TB md_X17_init 354 (.iadd, 0, 0, 0, []) := io_plain (by decide +kernel) rfl
theorem r_X17_init_355 : IOK WB AD SR FW TB md_X17_init 355 (.aaload, 0, 0, 0, []) := io_plain (by decide +kernel) rfl
theorem r_X17_init_356 : IOK WB AD SR FW TB md_X17_init 356 (.aastore, 0, 0, 0, []) := io_plain (by decide +kernel) rfl
theorem r_X17_init_357 : IOK WB AD SR FW TB md_X17_init 357 (.iinc 1 1, 0, 0, 0, []) := io_plain (by decide +kernel) rfl
theorem r_X17_init_360 : IOK WB AD SR FW TB md_X17_init 360 (.goto (-24), 0, 0, 0, []) := io_plain (by decide +kernel) rfl
theorem r_X17_init_363 : IOK WB AD SR FW TB md_X17_init 363 (.return_, 0, 0, 0, []) := io_void (by decide +kernel) rfl
set_option maxRecDepth 100000 in
theorem ok_X17_init_0 : ∀ q ∈ tl_X17_init_0, IOK WB AD SR FW TB md_X17_init q.1 q.2 := List.forall_mem_cons.mpr ⟨r_X17_init_0, List.forall_mem_cons.mpr ⟨r_X17_init_1, List.forall_mem_cons.mpr ⟨r_X17_init_4, List.forall_mem_cons.mpr ⟨r_X17_init_5, List.forall_mem_cons.mpr ⟨r_X17_init_7, List.forall_mem_cons.mpr ⟨r_X17_init_9, List.forall_mem_cons.mpr ⟨r_X17_init_12, List.forall_mem_cons.mpr ⟨r_X17_init_13, List.forall_mem_cons.mpr ⟨r_X17_init_15, List.forall_mem_cons.mpr ⟨r_X17_init_17, List.forall_mem_cons.mpr ⟨r_X17_init_20, List.forall_mem_cons.mpr ⟨r_X17_init_21, List.forall_mem_cons.mpr ⟨r_X17_init_23, List.forall_mem_cons.mpr ⟨r_X17_init_25, List.forall_mem_cons.mpr ⟨r_X17_init_28, List.forall_mem_cons.mpr ⟨r_X17_init_29, List.forall_mem_cons.mpr ⟨r_X17_init_31, List.forall_mem_cons.mpr ⟨r_X17_init_33, List.forall_mem_cons.mpr ⟨r_X17_init_36, List.forall_mem_cons.mpr ⟨r_X17_init_37, List.forall_mem_cons.mpr ⟨r_X17_init_39, List.forall_mem_cons.mpr ⟨r_X17_init_41, List.forall_mem_cons.mpr ⟨r_X17_init_44, List.forall_mem_cons.mpr ⟨r_X17_init_45, List.forall_mem_cons.mpr ⟨r_X17_init_47, List.forall_mem_cons.mpr ⟨r_X17_init_49, List.forall_mem_cons.mpr ⟨r_X17_init_52, List.forall_mem_cons.mpr ⟨r_X17_init_53, List.forall_mem_cons.mpr ⟨r_X17_init_55, List.forall_mem_cons.mpr ⟨r_X17_init_57, List.forall_mem_cons.mpr ⟨r_X17_init_60, List.forall_mem_cons.mpr ⟨r_X17_init_61, List.forall_mem_cons.mpr ⟨r_X17_init_64, List.forall_mem_cons.mpr ⟨r_X17_init_66, List.forall_mem_cons.mpr ⟨r_X17_init_69, List.forall_mem_cons.mpr ⟨r_X17_init_70, List.forall_mem_cons.mpr ⟨r_X17_init_72, List.forall_mem_cons.mpr ⟨r_X17_init_74, List.forall_mem_cons.mpr ⟨r_X17_init_77, List.forall_mem_cons.mpr ⟨r_X17_init_78, fun _ h => absurd h List.not_mem_nil⟩⟩⟩⟩⟩⟩⟩⟩⟩⟩⟩⟩⟩⟩⟩⟩⟩⟩⟩⟩⟩⟩⟩⟩⟩⟩⟩⟩⟩⟩⟩⟩⟩⟩⟩⟩⟩⟩⟩⟩
set_option maxRecDepth 100000 in
theorem tq_X17_init_0 : tf_X17_init_0 = tl_X17_init_0.map (fun q => (q.1, stepOf NPf md_X17_init q.2)) := rfl
set_option maxRecDepth 100000 in
theorem ok_X17_init_1 : ∀ q ∈ tl_X17_init_1, IOK WB AD SR FW TB md_X17_init q.1 q.2 := List.forall_mem_cons.mpr ⟨r_X17_init_80, List.forall_mem_cons.mpr ⟨r_X17_init_82, List.forall_mem_cons.mpr ⟨r_X17_init_85, List.forall_mem_cons.mpr ⟨r_X17_init_86, List.forall_mem_cons.mpr ⟨r_X17_init_89, List.forall_mem_cons.mpr ⟨r_X17_init_90, List.forall_mem_cons.mpr ⟨r_X17_init_93, List.forall_mem_cons.mpr ⟨r_X17_init_96, List.forall_mem_cons.mpr ⟨r_X17_init_97, List.forall_mem_cons.mpr ⟨r_X17_init_99, List.forall_mem_cons.mpr ⟨r_X17_init_102, List.forall_mem_cons.mpr ⟨r_X17_init_105, List.forall_mem_cons.mpr ⟨r_X17_init_106, List.forall_mem_cons.mpr ⟨r_X17_init_109, List.forall_mem_cons.mpr ⟨r_X17_init_110, List.forall_mem_cons.mpr ⟨r_X17_init_113, List.forall_mem_cons.mpr ⟨r_X17_init_116, List.forall_mem_cons.mpr ⟨r_X17_init_117, List.forall_mem_cons.mpr ⟨r_X17_init_120, List.forall_mem_cons.mpr ⟨r_X17_init_121, List.forall_mem_cons.mpr ⟨r_X17_init_124, List.forall_mem_cons.mpr ⟨r_X17_init_127, List.forall_mem_cons.mpr ⟨r_X17_init_128, List.forall_mem_cons.mpr ⟨r_X17_init_131, List.forall_mem_cons.mpr ⟨r_X17_init_132, List.forall_mem_cons.mpr ⟨r_X17_init_135, List.forall_mem_cons.mpr ⟨r_X17_init_138, List.forall_mem_cons.mpr ⟨r_X17_init_139, List.forall_mem_cons.mpr ⟨r_X17_init_142, List.forall_mem_cons.mpr ⟨r_X17_init_143, List.forall_mem_cons.mpr ⟨r_X17_init_146, List.forall_mem_cons.mpr ⟨r_X17_init_149, List.forall_mem_cons.mpr ⟨r_X17_init_150, List.forall_mem_cons.mpr ⟨r_X17_init_152, List.forall_mem_cons.mpr ⟨r_X17_init_154, List.forall_mem_cons.mpr ⟨r_X17_init_157, List.forall_mem_cons.mpr ⟨r_X17_init_158, List.forall_mem_cons.mpr ⟨r_X17_init_161, List.forall_mem_cons.mpr ⟨r_X17_init_163, List.forall_mem_cons.mpr ⟨r_X17_init_166, fun _ h => absurd h List.not_mem_nil⟩⟩⟩⟩⟩⟩⟩⟩⟩⟩⟩⟩⟩⟩⟩⟩⟩⟩⟩⟩⟩⟩⟩⟩⟩⟩⟩⟩⟩⟩⟩⟩⟩⟩⟩⟩⟩⟩⟩⟩
set_option maxRecDepth 100000 in
theorem tq_X17_init_1 : tf_X17_init_1 = tl_X17_init_1.map (fun q => (q.1, stepOf NPf md_X17_init q.2)) := rfl
set_option maxRecDepth 100000 in
theorem ok_X17_init_2 : ∀ q ∈ tl_X17_init_2, IOK WB AD SR FW TB md_X17_init q.1 q.2 := List.forall_mem_cons.mpr ⟨r_X17_init_167, List.forall_mem_cons.mpr ⟨r_X17_init_168, List.forall_mem_cons.mpr ⟨r_X17_init_171, List.forall_mem_cons.mpr ⟨r_X17_init_174, List.forall_mem_cons.mpr ⟨r_X17_init_175, List.forall_mem_cons.mpr ⟨r_X17_init_177, List.forall_mem_cons.mpr ⟨r_X17_init_180, List.forall_mem_cons.mpr ⟨r_X17_init_183, List.forall_mem_cons.mpr ⟨r_X17_init_184, List.forall_mem_cons.mpr ⟨r_X17_init_186, List.forall_mem_cons.mpr ⟨r_X17_init_189, List.forall_mem_cons.mpr ⟨r_X17_init_192, List.forall_mem_cons.mpr ⟨r_X17_init_193, List.forall_mem_cons.mpr ⟨r_X17_init_195, List.forall_mem_cons.mpr ⟨r_X17_init_198, List.forall_mem_cons.mpr ⟨r_X17_init_201, List.forall_mem_cons.mpr ⟨r_X17_init_202, List.forall_mem_cons.mpr ⟨r_X17_init_204, List.forall_mem_cons.mpr ⟨r_X17_init_207, List.forall_mem_cons.mpr ⟨r_X17_init_210, List.forall_mem_cons.mpr ⟨r_X17_init_211, List.forall_mem_cons.mpr ⟨r_X17_init_213, List.forall_mem_cons.mpr ⟨r_X17_init_216, List.forall_mem_cons.mpr ⟨r_X17_init_219, List.forall_mem_cons.mpr ⟨r_X17_init_220, List.forall_mem_cons.mpr ⟨r_X17_init_222, List.forall_mem_cons.mpr ⟨r_X17_init_224, List.forall_mem_cons.mpr ⟨r_X17_init_227, List.forall_mem_cons.mpr ⟨r_X17_init_228, List.forall_mem_cons.mpr ⟨r_X17_init_230, List.forall_mem_cons.mpr ⟨r_X17_init_232, List.forall_mem_cons.mpr ⟨r_X17_init_235, List.forall_mem_cons.mpr ⟨r_X17_init_236, List.forall_mem_cons.mpr ⟨r_X17_init_238, List.forall_mem_cons.mpr ⟨r_X17_init_241, List.forall_mem_cons.mpr ⟨r_X17_init_244, List.forall_mem_cons.mpr ⟨r_X17_init_245, List.forall_mem_cons.mpr ⟨r_X17_init_247, List.forall_mem_cons.mpr ⟨r_X17_init_249, List.forall_mem_cons.mpr ⟨r_X17_init_252, fun _ h => absurd h List.not_mem_nil⟩⟩⟩⟩⟩⟩⟩⟩⟩⟩⟩⟩⟩⟩⟩⟩⟩⟩⟩⟩⟩⟩⟩⟩⟩⟩⟩⟩⟩⟩⟩⟩⟩⟩⟩⟩⟩⟩⟩⟩
set_option maxRecDepth 100000 in
theorem tq_X17_init_2 : tf_X17_init_2 = tl_X17_init_2.map (fun q => (q.1, stepOf NPf md_X17_init q.2)) := rfl
set_option maxRecDepth 100000 in
theorem ok_X17_init_3 : ∀ q ∈ tl_X17_init_3, IOK WB AD SR FW TB md_X17_init q.1 q.2 := List.forall_mem_cons.mpr ⟨r_X17_init_253, List.forall_mem_cons.mpr ⟨r_X17_init_255, List.forall_mem_cons.mpr ⟨r_X17_init_258, List.forall_mem_cons.mpr ⟨r_X17_init_261, List.forall_mem_cons.mpr ⟨r_X17_init_262, List.forall_mem_cons.mpr ⟨r_X17_init_265, List.forall_mem_cons.mpr ⟨r_X17_init_266, List.forall_mem_cons.mpr ⟨r_X17_init_269, List.forall_mem_cons.mpr ⟨r_X17_init_272, List.forall_mem_cons.mpr ⟨r_X17_init_273, List.forall_mem_cons.mpr ⟨r_X17_init_275, List.forall_mem_cons.mpr ⟨r_X17_init_278, List.forall_mem_cons.mpr ⟨r_X17_init_281, List.forall_mem_cons.mpr ⟨r_X17_init_282, List.forall_mem_cons.mpr ⟨r_X17_init_283, List.forall_mem_cons.mpr ⟨r_X17_init_284, List.forall_mem_cons.mpr ⟨r_X17_init_286, List.forall_mem_cons.mpr ⟨r_X17_init_289, List.forall_mem_cons.mpr ⟨r_X17_init_290, List.forall_mem_cons.mpr ⟨r_X17_init_293, List.forall_mem_cons.mpr ⟨r_X17_init_294, List.forall_mem_cons.mpr ⟨r_X17_init_295, List.forall_mem_cons.mpr ⟨r_X17_init_296, List.forall_mem_cons.mpr ⟨r_X17_init_299, List.forall_mem_cons.mpr ⟨r_X17_init_302, List.forall_mem_cons.mpr ⟨r_X17_init_303, List.forall_mem_cons.mpr ⟨r_X17_init_304, List.forall_mem_cons.mpr ⟨r_X17_init_305, List.forall_mem_cons.mpr ⟨r_X17_init_307, List.forall_mem_cons.mpr ⟨r_X17_init_310, List.forall_mem_cons.mpr ⟨r_X17_init_311, List.forall_mem_cons.mpr ⟨r_X17_init_314, List.forall_mem_cons.mpr ⟨r_X17_init_315, List.forall_mem_cons.mpr ⟨r_X17_init_318, List.forall_mem_cons.mpr ⟨r_X17_init_319, List.forall_mem_cons.mpr ⟨r_X17_init_320, List.forall_mem_cons.mpr ⟨r_X17_init_321, List.forall_mem_cons.mpr ⟨r_X17_init_324, List.forall_mem_cons.mpr ⟨r_X17_init_327, List.forall_mem_cons.mpr ⟨r_X17_init_328, fun _ h => absurd h List.not_mem_nil⟩⟩⟩⟩⟩⟩⟩⟩⟩⟩⟩⟩⟩⟩⟩⟩⟩⟩⟩⟩⟩⟩⟩⟩⟩⟩⟩⟩⟩⟩⟩⟩⟩⟩⟩⟩⟩⟩⟩⟩
set_option maxRecDepth 100000 in
theorem tq_X17_init_3 : tf_X17_init_3 = tl_X17_init_3.map (fun q => (q.1, stepOf NPf md_X17_init q.2)) := rfl
set_option maxRecDepth 100000 in
theorem ok_X17_init_4 : ∀ q ∈ tl_X17_init_4, IOK WB AD SR FW TB md_X17_init q.1 q.2 := List.forall_mem_cons.mpr ⟨r_X17_init_331, List.forall_mem_cons.mpr ⟨r_X17_init_334, List.forall_mem_cons.mpr ⟨r_X17_init_335, List.forall_mem_cons.mpr ⟨r_X17_init_336, List.forall_mem_cons.mpr ⟨r_X17_init_337, List.forall_mem_cons.mpr ⟨r_X17_init_339, List.forall_mem_cons.mpr ⟨r_X17_init_342, List.forall_mem_cons.mpr ⟨r_X17_init_343, List.forall_mem_cons.mpr ⟨r_X17_init_346, List.forall_mem_cons.mpr ⟨r_X17_init_347, List.forall_mem_cons.mpr ⟨r_X17_init_348, List.forall_mem_cons.mpr ⟨r_X17_init_351, List.forall_mem_cons.mpr ⟨r_X17_init_353, List.forall_mem_cons.mpr ⟨r_X17_init_354, List.forall_mem_cons.mpr ⟨r_X17_init_355, List.forall_mem_cons.mpr ⟨r_X17_init_356, List.forall_mem_cons.mpr ⟨r_X17_init_357, List.forall_mem_cons.mpr ⟨r_X17_init_360, List.forall_mem_cons.mpr ⟨r_X17_init_363, fun _ h => absurd h List.not_mem_nil⟩⟩⟩⟩⟩⟩⟩⟩⟩⟩⟩⟩⟩⟩⟩⟩⟩⟩⟩
set_option maxRecDepth 100000 in
theorem tq_X17_init_4 : tf_X17_init_4 = tl_X17_init_4.map (fun q => (q.1, stepOf NPf md_X17_init q.2)) := rfl
theorem ro_X17_init : RowsOK (md_X17_init, tl_X17_init) tf_X17_init := rows_app ⟨tq_X17_init_0, ok_X17_init_0⟩ (rows_app ⟨tq_X17_init_1, ok_X17_init_1⟩ (rows_app ⟨tq_X17_init_2, ok_X17_init_2⟩ (rows_app ⟨tq_X17_init_3, ok_X17_init_3⟩ (⟨tq_X17_init_4, ok_X17_init_4⟩))))
theorem r_X17_made_0 : IOK WB AD SR FW TB md_X17_made 0 (.iconst 1, 0, 0, 0, []) := io_plain (by decide +kernel) rfl
theorem r_X17_made_1 : IOK WB AD SR FW TB md_X17_made 1 (.istore_n 2, 0, 0, 0, []) := io_plain (by decide +kernel) rfl
theorem r_X17_made_2 : IOK WB AD SR FW TB md_X17_made 2 (.aload_n 1, 0, 0, 0, []) := io_plain (by decide +kernel) rfl
theorem r_X17_made_3 : IOK WB AD SR FW TB md_X17_made 3 (.astore_n 3, 0, 0, 0, []) := io_plain (by decide +kernel) rfl
theorem r_X17_made_4 : IOK WB AD SR FW TB md_X17_made 4 (.aload_n 3, 0, 0, 0, []) := io_plain (by decide +kernel) rfl
theorem r_X17_made_5 : IOK WB AD SR FW TB md_X17_made 5 (.arraylength, 0, 0, 0, []) := io_plain (by decide +kernel) rfl
theorem r_X17_made_6 : IOK WB AD SR FW TB md_X17_made 6 (.istore 4, 0, 0, 0, []) := io_plain (by decide +kernel) rfl
theorem r_X17_made_8 : IOK WB AD SR FW TB md_X17_made 8 (.iconst 0, 0, 0, 0, []) := io_plain (by decide +kernel) rfl
theorem r_X17_made_9 : IOK WB AD SR FW TB md_X17_made 9 (.istore 5, 0, 0, 0, []) := io_plain (by decide +kernel) rfl
theorem r_X17_made_11 : IOK WB AD SR FW TB md_X17_made 11 (.iload 5, 0, 0, 0, []) := io_plain (by decide +kernel) rfl
theorem r_X17_made_13 : IOK WB AD SR FW TB md_X17_made 13 (.iload 4, 0, 0, 0, []) := io_plain (by decide +kernel) rfl
theorem r_X17_made_15 : IOK WB AD SR FW TB md_X17_made 15 (.if_icmp .ge 23, 0, 0, 0, []) := io_plain (by decide +kernel) rfl
theorem r_X17_made_18 : IOK WB AD SR FW TB md_X17_made 18 (.aload_n 3, 0, 0, 0, []) := io_plain (by decide +kernel) rfl
theorem r_X17_made_19 : IOK WB AD SR FW TB md_X17_made 19 (.iload 5, 0, 0, 0, []) := io_plain (by decide +kernel) rfl
theorem r_X17_made_21 : IOK WB AD SR FW TB md_X17_made 21 (.aaload, 0, 0, 0, []) := io_plain (by decide +kernel) rfl
theorem r_X17_made_22 : IOK WB AD SR FW TB md_X17_made 22 (.astore 6, 0, 0, 0, []) := io_plain (by decide +kernel) rfl
theorem r_X17_made_24 : IOK WB AD SR FW TB md_X17_made 24 (.iload_n 2, 0, 0, 0, []) := io_plain (by decide +kernel) rfl
theorem r_X17_made_25 : IOK WB AD SR FW TB md_X17_made 25 (.aload 6, 0, 0, 0, []) := io_plain (by decide +kernel) rfl
theorem r_X17_made_27 : IOK WB AD SR FW TB md_X17_made 27 (.getfield 132, 17, 3, 0, []) := io_get (by decide +kernel) fo_RX17_132
theorem r_X17_made_30 : IOK WB AD SR FW TB md_X17_made 30 (.iadd, 0, 0, 0, []) := io_plain (by decide +kernel) rfl
theorem r_X17_made_31 : IOK WB AD SR FW TB md_X17_made 31 (.istore_n 2, 0, 0, 0, []) := io_plain (by decide +kernel) rfl
theorem r_X17_made_32 : IOK WB AD SR FW TB md_X17_made 32 (.iinc 5 1, 0, 0, 0, []) := io_plain (by decide +kernel) rfl
theorem r_X17_made_35 : IOK WB AD SR FW TB md_X17_made 35 (.goto (-24), 0, 0, 0, []) := io_plain (by decide +kernel) rfl
theorem r_X17_made_38 : IOK WB AD SR FW TB md_X17_made 38 (.iload_n 2, 0, 0, 0, []) := io_plain (by decide +kernel) rfl
theorem r_X17_made_39 : IOK WB AD SR FW TB md_X17_made 39 (.bipush 20, 0, 0, 0, []) := io_plain (by decide +kernel) rfl
theorem r_X17_made_41 : IOK WB AD SR FW TB md_X17_made 41 (.if_icmp .le 11, 0, 0, 0, []) := io_plain (by decide +kernel) rfl
theorem r_X17_made_52 : IOK WB AD SR FW TB md_X17_made 52 (.new 48, 17, 0, 0, [0, 0, 2, 0, 0, 2]) := io_new (by decide +kernel) rfl no_RX17_48
theorem r_X17_made_55 : IOK WB AD SR FW TB md_X17_made 55 (.dup, 0, 0, 0, []) := io_plain (by decide +kernel) rfl
theorem r_X17_made_56 : IOK WB AD SR FW TB md_X17_made 56 (.iload_n 0, 0, 0, 0, []) := io_plain (by decide +kernel) rfl
theorem r_X17_made_57 : IOK WB AD SR FW TB md_X17_made 57 (.aload_n 1, 0, 0, 0, []) := io_plain (by decide +kernel) rfl
theorem r_X17_made_58 : IOK WB AD SR FW TB md_X17_made 58 (.iload_n 2, 0, 0, 0, []) := io_plain (by decide +kernel) rfl
theorem r_X17_made_59 : IOK WB AD SR FW TB md_X17_made 59 (.invokespecial 138, 57, 17, 0, []) := io_spec (by decide +kernel) tb_X16_init_ (Or.inl (wb_8 126 rfl rfl)) in_X16_init_ rfl rfl rfl pr_X16_init_ (by decide)
theorem r_X17_made_62 : IOK WB AD SR FW TB md_X17_made 62 (.areturn, 0, 0, 0, []) := io_aret (by decide +kernel) rfl
set_option maxRecDepth 100000 in
theorem ok_X17_made_0 : ∀ q ∈ tl_X17_made, IOK WB AD SR FW TB md_X17_made q.1 q.2 := List.forall_mem_cons.mpr ⟨r_X17_made_0, List.forall_mem_cons.mpr ⟨r_X17_made_1, List.forall_mem_cons.mpr ⟨r_X17_made_2, List.forall_mem_cons.mpr ⟨r_X17_made_3, List.forall_mem_cons.mpr ⟨r_X17_made_4, List.forall_mem_cons.mpr ⟨r_X17_made_5, List.forall_mem_cons.mpr ⟨r_X17_made_6, List.forall_mem_cons.mpr ⟨r_X17_made_8, List.forall_mem_cons.mpr ⟨r_X17_made_9, List.forall_mem_cons.mpr ⟨r_X17_made_11, List.forall_mem_cons.mpr ⟨r_X17_made_13, List.forall_mem_cons.mpr ⟨r_X17_made_15, List.forall_mem_cons.mpr ⟨r_X17_made_18, List.forall_mem_cons.mpr ⟨r_X17_made_19, List.forall_mem_cons.mpr ⟨r_X17_made_21, List.forall_mem_cons.mpr ⟨r_X17_made_22, List.forall_mem_cons.mpr ⟨r_X17_made_24, List.forall_mem_cons.mpr ⟨r_X17_made_25, List.forall_mem_cons.mpr ⟨r_X17_made_27, List.forall_mem_cons.mpr ⟨r_X17_made_30, List.forall_mem_cons.mpr ⟨r_X17_made_31, List.forall_mem_cons.mpr ⟨r_X17_made_32, List.forall_mem_cons.mpr ⟨r_X17_made_35, List.forall_mem_cons.mpr ⟨r_X17_made_38, List.forall_mem_cons.mpr ⟨r_X17_made_39, List.forall_mem_cons.mpr ⟨r_X17_made_41, List.forall_mem_cons.mpr ⟨r_X17_made_52, List.forall_mem_cons.mpr ⟨r_X17_made_55, List.forall_mem_cons.mpr ⟨r_X17_made_56, List.forall_mem_cons.mpr ⟨r_X17_made_57, List.forall_mem_cons.mpr ⟨r_X17_made_58, List.forall_mem_cons.mpr ⟨r_X17_made_59, List.forall_mem_cons.mpr ⟨r_X17_made_62, fun _ h => absurd h List.not_mem_nil⟩⟩⟩⟩⟩⟩⟩⟩⟩⟩⟩⟩⟩⟩⟩⟩⟩⟩⟩⟩⟩⟩⟩⟩⟩⟩⟩⟩⟩⟩⟩⟩⟩
set_option maxRecDepth 100000 in
theorem tq_X17_made_0 : tf_X17_made = tl_X17_made.map (fun q => (q.1, stepOf NPf md_X17_made q.2)) := rfl
theorem ro_X17_made : RowsOK (md_X17_made, tl_X17_made) tf_X17_made := ⟨tq_X17_made_0, ok_X17_made_0⟩
theorem r_Jx4a65c_get_915e3_0 : IOK WB AD SR FW TB md_Jx4a65c_get_915e3 0 (.iload_n 1, 0, 0, 0, []) := io_plain (by decide +kernel) rfl
theorem r_Jx4a65c_get_915e3_1 : IOK WB AD SR FW TB md_Jx4a65c_get_915e3 1 (.aload_n 0, 0, 0, 0, []) := io_plain (by decide +kernel) rfl
theorem r_Jx4a65c_get_915e3_2 : IOK WB AD SR FW TB md_Jx4a65c_get_915e3 2 (.getfield 48, 0, 2, 0, []) := io_get (by decide +kernel) fo_RJx4a65c_48
theorem r_Jx4a65c_get_915e3_5 : IOK WB AD SR FW TB md_Jx4a65c_get_915e3 5 (.invokestatic 118, 54, 0, 0, []) := io_stat (by decide +kernel) tb_J15_checkIndex_7cf53 (Or.inl (wb_8 49 rfl rfl)) st_J15_checkIndex_7cf53 pr_J15_checkIndex_7cf53
theorem r_Jx4a65c_get_915e3_8 : IOK WB AD SR FW TB md_Jx4a65c_get_915e3 8 (.pop, 0, 0, 0, []) := io_plain (by decide +kernel) rfl
theorem r_Jx4a65c_get_915e3_9 : IOK WB AD SR FW TB md_Jx4a65c_get_915e3 9 (.aload_n 0, 0, 0, 0, []) := io_plain (by decide +kernel) rfl
theorem r_Jx4a65c_get_915e3_10 : IOK WB AD SR FW TB md_Jx4a65c_get_915e3 10 (.iload_n 1, 0, 0, 0, []) := io_plain (by decide +kernel) rfl
theorem r_Jx4a65c_get_915e3_11 : IOK WB AD SR FW TB md_Jx4a65c_get_915e3 11 (.invokevirtual 123, 58, 0, 0, []) := io_virt (by decide +kernel) tb_Jx4a65c_elementData_915e3 (Or.inl (wb_8 154 rfl rfl)) in_Jx4a65c_elementData_915e3 se_Jx4a65c_elementData_915e3 ⟨_, rfl, rfl⟩ pr_Jx4a65c_elementData_915e3 (by decide)
theorem r_Jx4a65c_get_915e3_14 : IOK WB AD SR FW TB md_Jx4a65c_get_915e3 14 (.areturn, 0, 0, 0, []) := io_aret (by decide +kernel) rfl
set_option maxRecDepth 100000 in
theorem ok_Jx4a65c_get_915e3_0 : ∀ q ∈ tl_Jx4a65c_get_915e3, IOK WB AD SR FW TB md_Jx4a65c_get_915e3 q.1 q.2 := List.forall_mem_cons.mpr ⟨r_Jx4a65c_get_915e3_0, List.forall_mem_cons.mpr ⟨r_Jx4a65c_get_915e3_1, List.forall_mem_cons.mpr ⟨r_Jx4a65c_get_915e3_2, List.forall_mem_cons.mpr ⟨r_Jx4a65c_get_915e3_5, List.forall_mem_cons.mpr ⟨r_Jx4a65c_get_915e3_8, List.forall_mem_cons.mpr ⟨r_Jx4a65c_get_915e3_9, List.forall_mem_cons.mpr ⟨r_Jx4a65c_get_915e3_10, List.forall_mem_cons.mpr ⟨r_Jx4a65c_get_915e3_11, List.forall_mem_cons.mpr ⟨r_Jx4a65c_get_915e3_14, fun _ h => absurd h List.not_mem_nil⟩⟩⟩⟩⟩⟩⟩⟩⟩
set_option maxRecDepth 100000 in
theorem tq_Jx4a65c_get_915e3_0 : tf_Jx4a65c_get_915e3 = tl_Jx4a65c_get_915e3.map (fun q => (q.1, stepOf NPf md_Jx4a65c_get_915e3 q.2)) := rfl
theorem ro_Jx4a65c_get_915e3 : RowsOK (md_Jx4a65c_get_915e3, tl_Jx4a65c_get_915e3) tf_Jx4a65c_get_915e3 := ⟨tq_Jx4a65c_get_915e3_0, ok_Jx4a65c_get_915e3_0⟩
theorem r_J3_checkIndex_8e157_0 : IOK WB AD SR FW TB md_J3_checkIndex_8e157 0 (.iload_n 0, 0, 0, 0, []) := io_plain (by decide +kernel) rfl
theorem r_J3_checkIndex_8e157_1 : IOK WB AD SR FW TB md_J3_checkIndex_8e157 1 (.ifCond .lt 8, 0, 0, 0, []) := io_plain (by decide +kernel) rfl
theorem r_J3_checkIndex_8e157_4 : IOK WB AD SR FW TB md_J3_checkIndex_8e157 4 (.iload_n 0, 0, 0, 0, []) := io_plain (by decide +kernel) rfl
theorem r_J3_checkIndex_8e157_5 : IOK WB AD SR FW TB md_J3_checkIndex_8e157 5 (.iload_n 1, 0, 0, 0, []) := io_plain (by decide +kernel) rfl
theorem r_J3_checkIndex_8e157_6 : IOK WB AD SR FW TB md_J3_checkIndex_8e157 6 (.if_icmp .lt 10, 0, 0, 0, []) := io_plain (by decide +kernel) rfl
theorem r_J3_checkIndex_8e157_16 : IOK WB AD SR FW TB md_J3_checkIndex_8e157 16 (.iload_n 0, 0, 0, 0, []) := io_plain (by decide +kernel) rfl
theorem r_J3_checkIndex_8e157_17 : IOK WB AD SR FW TB md_J3_checkIndex_8e157 17 (.ireturn, 0, 0, 0, []) := io_plain (by decide +kernel) rfl
set_option maxRecDepth 100000 in
theorem ok_J3_checkIndex_8e157_0 : ∀ q ∈ tl_J3_checkIndex_8e157, IOK WB AD SR FW TB md_J3_checkIndex_8e157 q.1 q.2 := List.forall_mem_cons.mpr ⟨r_J3_checkIndex_8e157_0, List.forall_mem_cons.mpr ⟨r_J3_checkIndex_8e157_1, List.forall_mem_cons.mpr ⟨r_J3_checkIndex_8e157_4, List.forall_mem_cons.mpr ⟨r_J3_checkIndex_8e157_5, List.forall_mem_cons.mpr ⟨r_J3_checkIndex_8e157_6, List.forall_mem_cons.mpr ⟨r_J3_checkIndex_8e157_16, List.forall_mem_cons.mpr ⟨r_J3_checkIndex_8e157_17, fun _ h => absurd h List.not_mem_nil⟩⟩⟩⟩⟩⟩⟩
set_option maxRecDepth 100000 in
theorem tq_J3_checkIndex_8e157_0 : tf_J3_checkIndex_8e157 = tl_J3_checkIndex_8e157.map (fun q => (q.1, stepOf NPf md_J3_checkIndex_8e157 q.2)) := rfl
theorem ro_J3_checkIndex_8e157 : RowsOK (md_J3_checkIndex_8e157, tl_J3_checkIndex_8e157) tf_J3_checkIndex_8e157 := ⟨tq_J3_checkIndex_8e157_0, ok_J3_checkIndex_8e157_0⟩
theorem r_X6_decide_0 : IOK WB AD SR FW TB md_X6_decide 0 (.aload_n 0, 0, 0, 0, []) := io_plain (by decide +kernel) rfl
theorem r_X6_decide_1 : IOK WB AD SR FW TB md_X6_decide 1 (.getfield 34, 7, 1, 2, []) := io_get (by decide +kernel) fo_RX6_34
theorem r_X6_decide_4 : IOK WB AD SR FW TB md_X6_decide 4 (.getfield 125, 3, 4, 2, []) := io_get (by decide +kernel) fo_RX6_125
theorem r_X6_decide_7 : IOK WB AD SR FW TB md_X6_decide 7 (.iload_n 1, 0, 0, 0, []) := io_plain (by decide +kernel) rfl
theorem r_X6_decide_8 : IOK WB AD SR FW TB md_X6_decide 8 (.baload, 0, 0, 0, []) := io_plain (by decide +kernel) rfl
theorem r_X6_decide_9 : IOK WB AD SR FW TB md_X6_decide 9 (.ifCond .ne 5, 0, 0, 0, []) := io_plain (by decide +kernel) rfl
theorem r_X6_decide_12 : IOK WB AD SR FW TB md_X6_decide 12 (.iconst 1, 0, 0, 0, []) := io_plain (by decide +kernel) rfl
theorem r_X6_decide_13 : IOK WB AD SR FW TB md_X6_decide 13 (.ireturn, 0, 0, 0, []) := io_plain (by decide +kernel) rfl
set_option maxRecDepth 100000 in
theorem ok_X6_decide_0 : ∀ q ∈ tl_X6_decide, IOK WB AD SR FW TB md_X6_decide q.1 q.2 := fun _ h => absurd h List.not_mem_nil
set_option maxRecDepth 100000 in
theorem tq_X6_decide_0 : tf_X6_decide = tl_X6_decide.map (fun q => (q.1, stepOf NPf md_X6_decide q.2)) := rfl
theorem ro_X6_decide : RowsOK (md_X6_decide, tl_X6_decide) tf_X6_decide := ⟨tq_X6_decide_0, ok_X6_decide_0⟩
theorem r_J15_checkIndex_7cf53_0 : IOK WB AD SR FW TB md_J15_checkIndex_7cf53 0 (.iload_n 0, 0, 0, 0, []) := io_plain (by decide +kernel) rfl
theorem r_J15_checkIndex_7cf53_1 : IOK WB AD SR FW TB md_J15_checkIndex_7cf53 1 (.iload_n 1, 0, 0, 0, []) := io_plain (by decide +kernel) rfl
theorem r_J15_checkIndex_7cf53_2 : IOK WB AD SR FW TB md_J15_checkIndex_7cf53 2 (.aconst_null, 0, 0, 0, []) := io_plain (by decide +kernel) rfl
theorem r_J15_checkIndex_7cf53_3 : IOK WB AD SR FW TB md_J15_checkIndex_7cf53 3 (.invokestatic 105, 52, 0, 0, []) := io_stat (by decide +kernel) tb_J3_checkIndex_8e157 (Or.inl (wb_8 52 rfl rfl)) st_J3_checkIndex_8e157 pr_J3_checkIndex_8e157
theorem r_J15_checkIndex_7cf53_6 : IOK WB AD SR FW TB md_J15_checkIndex_7cf53 6 (.ireturn, 0, 0, 0, []) := io_plain (by decide +kernel) rfl
set_option maxRecDepth 100000 in
theorem ok_J15_checkIndex_7cf53_0 : ∀ q ∈ tl_J15_checkIndex_7cf53, IOK WB AD SR FW TB md_J15_checkIndex_7cf53 q.1 q.2 := List.forall_mem_cons.mpr ⟨r_J15_checkIndex_7cf53_0, List.forall_mem_cons.mpr ⟨r_J15_checkIndex_7cf53_1, List.forall_mem_cons.mpr ⟨r_J15_checkIndex_7cf53_2, List.forall_mem_cons.mpr ⟨r_J15_checkIndex_7cf53_3, List.forall_mem_cons.mpr ⟨r_J15_checkIndex_7cf53_6, fun _ h => absurd h List.not_mem_nil⟩⟩⟩⟩⟩
set_option maxRecDepth 100000 in
theorem tq_J15_checkIndex_7cf53_0 : tf_J15_checkIndex_7cf53 = tl_J15_checkIndex_7cf53.map (fun q => (q.1, stepOf NPf md_J15_checkIndex_7cf53 q.2)) := rfl
theorem ro_J15_checkIndex_7cf53 : RowsOK (md_J15_checkIndex_7cf53, tl_J15_checkIndex_7cf53) tf_J15_checkIndex_7cf53 := ⟨tq_J15_checkIndex_7cf53_0, ok_J15_checkIndex_7cf53_0⟩
theorem r_Jx4a65c_fastRemove_b59b0_0 : IOK WB AD SR FW TB md_Jx4a65c_fastRemove_b59b0 0 (.aload_n 0, 0, 0, 0, []) := io_plain (by decide +kernel) rfl
theorem r_Jx4a65c_fastRemove_b59b0_1 : IOK WB AD SR FW TB md_Jx4a65c_fastRemove_b59b0 1 (.dup, 0, 0, 0, []) := io_plain (by decide +kernel) rfl
theorem r_Jx4a65c_fastRemove_b59b0_2 : IOK WB AD SR FW TB md_Jx4a65c_fastRemove_b59b0 2 (.getfield 63, 0, 0, 0, []) := io_get (by decide +kernel) fo_RJx4a65c_63
theorem r_Jx4a65c_fastRemove_b59b0_5 : IOK WB AD SR FW TB md_Jx4a65c_fastRemove_b59b0 5 (.iconst 1, 0, 0, 0, []) := io_plain (by decide +kernel) rfl
theorem r_Jx4a65c_fastRemove_b59b0_6 : IOK WB AD SR FW TB md_Jx4a65c_fastRemove_b59b0 6 (.iadd, 0, 0, 0, []) := io_plain (by decide +kernel) rfl
theorem r_Jx4a65c_fastRemove_b59b0_7 : IOK WB AD SR FW TB md_Jx4a65c_fastRemove_b59b0 7 (.putfield 63, 0, 0, 0, []) := io_put (by decide +kernel) fo_RJx4a65c_63 po_RJx4a65c_0_0_0_0
theorem r_Jx4a65c_fastRemove_b59b0_10 : IOK WB AD SR FW TB md_Jx4a65c_fastRemove_b59b0 10 (.aload_n 0, 0, 0, 0, []) := io_plain (by decide +kernel) rfl
theorem r_Jx4a65c_fastRemove_b59b0_11 : IOK WB AD SR FW TB md_Jx4a65c_fastRemove_b59b0 11 (.getfield 48, 0, 2, 0, []) := io_get (by decide +kernel) fo_RJx4a65c_48
theorem r_Jx4a65c_fastRemove_b59b0_14 : IOK WB AD SR FW TB md_Jx4a65c_fastRemove_b59b0 14 (.iconst 1, 0, 0, 0, []) := io_plain (by decide +kernel) rfl
theorem r_Jx4a65c_fastRemove_b59b0_15 : IOK WB AD SR FW TB md_Jx4a65c_fastRemove_b59b0 15 (.isub, 0, 0, 0, []) := io_plain (by decide +kernel) rfl
theorem r_Jx4a65c_fastRemove_b59b0_16 : IOK WB AD SR FW TB md_Jx4a65c_fastRemove_b59b0 16 (.dup, 0, 0, 0, []) := io_plain (by decide +kernel) rfl
theorem r_Jx4a65c_fastRemove_b59b0_17 : IOK WB AD SR FW TB md_Jx4a65c_fastRemove_b59b0 17 (.istore_n 3, 0, 0, 0, []) := io_plain (by decide +kernel) rfl
theorem r_Jx4a65c_fastRemove_b59b0_18 : IOK WB AD SR FW TB md_Jx4a65c_fastRemove_b59b0 18 (.iload_n 2, 0, 0, 0, []) := io_plain (by decide +kernel) rfl
theorem r_Jx4a65c_fastRemove_b59b0_19 : IOK WB AD SR FW TB md_Jx4a65c_fastRemove_b59b0 19 (.if_icmp .le 15, 0, 0, 0, []) := io_plain (by decide +kernel) rfl
theorem r_Jx4a65c_fastRemove_b59b0_34 : IOK WB AD SR FW TB md_Jx4a65c_fastRemove_b59b0 34 (.aload_n 1, 0, 0, 0, []) := io_plain (by decide +kernel) rfl
theorem r_Jx4a65c_fastRemove_b59b0_35 : IOK WB AD SR FW TB md_Jx4a65c_fastRemove_b59b0 35 (.aload_n 0, 0, 0, 0, []) := io_plain (by decide +kernel) rfl
theorem r_Jx4a65c_fastRemove_b59b0_36 : IOK WB AD SR FW TB md_Jx4a65c_fastRemove_b59b0 36 (.iload_n 3, 0, 0, 0, []) := io_plain (by decide +kernel) rfl
theorem r_Jx4a65c_fastRemove_b59b0_37 : IOK WB AD SR FW TB md_Jx4a65c_fastRemove_b59b0 37 (.dup_x1, 0, 0, 0, []) := io_plain (by decide +kernel) rfl
theorem r_Jx4a65c_fastRemove_b59b0_38 : IOK WB AD SR FW TB md_Jx4a65c_fastRemove_b59b0 38 (.putfield 48, 0, 2, 0, []) := io_put (by decide +kernel) fo_RJx4a65c_48 po_RJx4a65c_0_0_2_0
theorem r_Jx4a65c_fastRemove_b59b0_41 : IOK WB AD SR FW TB md_Jx4a65c_fastRemove_b59b0 41 (.aconst_null, 0, 0, 0, []) := io_plain (by decide +kernel) rfl
theorem r_Jx4a65c_fastRemove_b59b0_42 : IOK WB AD SR FW TB md_Jx4a65c_fastRemove_b59b0 42 (.aastore, 0, 0, 0, []) := io_plain (by decide +kernel) rfl
theorem r_Jx4a65c_fastRemove_b59b0_43 : IOK WB AD SR FW TB md_Jx4a65c_fastRemove_b59b0 43 (.return_, 0, 0, 0, []) := io_void (by decide +kernel) rfl
set_option maxRecDepth 100000 in
theorem ok_Jx4a65c_fastRemove_b59b0_0 : ∀ q ∈ tl_Jx4a65c_fastRemove_b59b0, IOK WB AD SR FW TB md_Jx4a65c_fastRemove_b59b0 q.1 q.2 := List.forall_mem_cons.mpr ⟨r_Jx4a65c_fastRemove_b59b0_0, List.forall_mem_cons.mpr ⟨r_Jx4a65c_fastRemove_b59b0_1, List.forall_mem_cons.mpr ⟨r_Jx4a65c_fastRemove_b59b0_2, List.forall_mem_cons.mpr ⟨r_Jx4a65c_fastRemove_b59b0_5, List.forall_mem_cons.mpr ⟨r_Jx4a65c_fastRemove_b59b0_6, List.forall_mem_cons.mpr ⟨r_Jx4a65c_fastRemove_b59b0_7, List.forall_mem_cons.mpr ⟨r_Jx4a65c_fastRemove_b59b0_10, List.forall_mem_cons.mpr ⟨r_Jx4a65c_fastRemove_b59b0_11, List.forall_mem_cons.mpr ⟨r_Jx4a65c_fastRemove_b59b0_14, List.forall_mem_cons.mpr ⟨r_Jx4a65c_fastRemove_b59b0_15, List.forall_mem_cons.mpr ⟨r_Jx4a65c_fastRemove_b59b0_16, List.forall_mem_cons.mpr ⟨r_Jx4a65c_fastRemove_b59b0_17, List.forall_mem_cons.mpr ⟨r_Jx4a65c_fastRemove_b59b0_18, List.forall_mem_cons.mpr ⟨r_Jx4a65c_fastRemove_b59b0_19, List.forall_mem_cons.mpr ⟨r_Jx4a65c_fastRemove_b59b0_34, List.forall_mem_cons.mpr ⟨r_Jx4a65c_fastRemove_b59b0_35, List.forall_mem_cons.mpr ⟨r_Jx4a65c_fastRemove_b59b0_36, List.forall_mem_cons.mpr ⟨r_Jx4a65c_fastRemove_b59b0_37, List.forall_mem_cons.mpr ⟨r_Jx4a65c_fastRemove_b59b0_38, List.forall_mem_cons.mpr ⟨r_Jx4a65c_fastRemove_b59b0_41, List.forall_mem_cons.mpr ⟨r_Jx4a65c_fastRemove_b59b0_42, List.forall_mem_cons.mpr ⟨r_Jx4a65c_fastRemove_b59b0_43, fun _ h => absurd h List.not_mem_nil⟩⟩⟩⟩⟩⟩⟩⟩⟩⟩⟩⟩⟩⟩⟩⟩⟩⟩⟩⟩⟩⟩
set_option maxRecDepth 100000 in
theorem tq_Jx4a65c_fastRemove_b59b0_0 : tf_Jx4a65c_fastRemove_b59b0 = tl_Jx4a65c_fastRemove_b59b0.map (fun q => (q.1, stepOf NPf md_Jx4a65c_fastRemove_b59b0 q.2)) := rfl
theorem ro_Jx4a65c_fastRemove_b59b0 : RowsOK (md_Jx4a65c_fastRemove_b59b0, tl_Jx4a65c_fastRemove_b59b0) tf_Jx4a65c_fastRemove_b59b0 := ⟨tq_Jx4a65c_fastRemove_b59b0_0, ok_Jx4a65c_fastRemove_b59b0_0⟩
theorem r_X8_giveNothing_0 : IOK WB AD SR FW TB md_X8_giveNothing 0 (.aload_n 0, 0, 0, 0, []) := io_plain (by decide +kernel) rfl
theorem r_X8_giveNothing_1 : IOK WB AD SR FW TB md_X8_giveNothing 1 (.getfield 28, 9, 7, 2, []) := io_get (by decide +kernel) fo_RX8_28
theorem r_X8_giveNothing_4 : IOK WB AD SR FW TB md_X8_giveNothing 4 (.iconst (-1), 0, 0, 0, []) := io_plain (by decide +kernel) rfl
theorem r_X8_giveNothing_5 : IOK WB AD SR FW TB md_X8_giveNothing 5 (.invokestatic 51, 9, 0, 0, []) := io_stat (by decide +kernel) tb_J7_fill_53178 (Or.inl (wb_3 136 rfl rfl)) st_J7_fill_53178 pr_J7_fill_53178
theorem r_X8_giveNothing_8 : IOK WB AD SR FW TB md_X8_giveNothing 8 (.return_, 0, 0, 0, []) := io_void (by decide +kernel) rfl
set_option maxRecDepth 100000 in
theorem ok_X8_giveNothing_0 : ∀ q ∈ tl_X8_giveNothing, IOK WB AD SR FW TB md_X8_giveNothing q.1 q.2 := List.forall_mem_cons.mpr ⟨r_X8_giveNothing_0, List.forall_mem_cons.mpr ⟨r_X8_giveNothing_1, List.forall_mem_cons.mpr ⟨r_X8_giveNothing_4, List.forall_mem_cons.mpr ⟨r_X8_giveNothing_5, List.forall_mem_cons.mpr ⟨r_X8_giveNothing_8, fun _ h => absurd h List.not_mem_nil⟩⟩⟩⟩⟩
set_option maxRecDepth 100000 in
theorem tq_X8_giveNothing_0 : tf_X8_giveNothing = tl_X8_giveNothing.map (fun q => (q.1, stepOf NPf md_X8_giveNothing q.2)) := rfl
theorem ro_X8_giveNothing : RowsOK (md_X8_giveNothing, tl_X8_giveNothing) tf_X8_giveNothing := ⟨tq_X8_giveNothing_0, ok_X8_giveNothing_0⟩
theorem r_X16_init__0 : IOK WB AD SR FW TB md_X16_init_ 0 (.aload_n 0, 0, 0, 0, []) := io_plain (by decide +kernel) rfl
theorem r_X16_init__1 : IOK WB AD SR FW TB md_X16_init_ 1 (.invokespecial 3, 1000, 0, 0, []) := io_obj (by decide +kernel) (wb_7 78 rfl rfl) ob_1 ob_2
theorem r_X16_init__4 : IOK WB AD SR FW TB md_X16_init_ 4 (.aload_n 0, 0, 0, 0, []) := io_plain (by decide +kernel) rfl
theorem r_X16_init__5 : IOK WB AD SR FW TB md_X16_init_ 5 (.iconst (-1), 0, 0, 0, []) := io_plain (by decide +kernel) rfl
theorem r_X16_init__6 : IOK WB AD SR FW TB md_X16_init_ 6 (.putfield 9, 17, 4, 0, []) := io_put (by decide +kernel) fo_RX16_9 po_RX16_1_17_4_0
theorem r_X16_init__9 : IOK WB AD SR FW TB md_X16_init_ 9 (.aload_n 0, 0, 0, 0, []) := io_plain (by decide +kernel) rfl
theorem r_X16_init__10 : IOK WB AD SR FW TB md_X16_init_ 10 (.iconst (-1), 0, 0, 0, []) := io_plain (by decide +kernel) rfl
