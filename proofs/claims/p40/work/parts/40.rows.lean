theorem r_X17_top_23 : IOK WB AD SR FW TB md_X17_top 23 (.areturn, 0, 0, 0, []) := io_aret (by decide +kernel) rfl
set_option maxRecDepth 100000 in
theorem ok_X17_top_0 : ∀ q ∈ tl_X17_top, IOK WB AD SR FW TB md_X17_top q.1 q.2 := List.forall_mem_cons.mpr ⟨r_X17_top_0, List.forall_mem_cons.mpr ⟨r_X17_top_1, List.forall_mem_cons.mpr ⟨r_X17_top_4, List.forall_mem_cons.mpr ⟨r_X17_top_5, List.forall_mem_cons.mpr ⟨r_X17_top_8, List.forall_mem_cons.mpr ⟨r_X17_top_13, List.forall_mem_cons.mpr ⟨r_X17_top_14, List.forall_mem_cons.mpr ⟨r_X17_top_15, List.forall_mem_cons.mpr ⟨r_X17_top_20, List.forall_mem_cons.mpr ⟨r_X17_top_23, fun _ h => absurd h List.not_mem_nil⟩⟩⟩⟩⟩⟩⟩⟩⟩⟩
set_option maxRecDepth 100000 in
theorem tq_X17_top_0 : tf_X17_top = tl_X17_top.map (fun q => (q.1, stepOf NPf md_X17_top q.2)) := rfl
theorem ro_X17_top : RowsOK (md_X17_top, tl_X17_top) tf_X17_top := ⟨tq_X17_top_0, ok_X17_top_0⟩
theorem r_X17_othersOf_0 : IOK WB AD SR FW TB md_X17_othersOf 0 (.aload_n 0, 0, 0, 0, []) := io_plain (by decide +kernel) rfl
theorem r_X17_othersOf_1 : IOK WB AD SR FW TB md_X17_othersOf 1 (.getfield 298, 14, 1, 2, []) := io_get (by decide +kernel) fo_RX17_298
theorem r_X17_othersOf_4 : IOK WB AD SR FW TB md_X17_othersOf 4 (.invokevirtual 239, 38, 17, 0, []) := io_virt (by decide +kernel) tb_X16_variables (Or.inl (wb_8 163 rfl rfl)) in_X16_variables se_X16_variables ⟨_, rfl, rfl⟩ pr_X16_variables (by decide)
theorem r_X17_othersOf_7 : IOK WB AD SR FW TB md_X17_othersOf 7 (.aload_n 0, 0, 0, 0, []) := io_plain (by decide +kernel) rfl
theorem r_X17_othersOf_8 : IOK WB AD SR FW TB md_X17_othersOf 8 (.getfield 253, 14, 2, 2, []) := io_get (by decide +kernel) fo_RX17_253
theorem r_X17_othersOf_11 : IOK WB AD SR FW TB md_X17_othersOf 11 (.ifnonnull 7, 0, 0, 0, []) := io_plain (by decide +kernel) rfl
theorem r_X17_othersOf_14 : IOK WB AD SR FW TB md_X17_othersOf 14 (.iconst 0, 0, 0, 0, []) := io_plain (by decide +kernel) rfl
theorem r_X17_othersOf_15 : IOK WB AD SR FW TB md_X17_othersOf 15 (.goto 18, 0, 0, 0, []) := io_plain (by decide +kernel) rfl
theorem r_X17_othersOf_33 : IOK WB AD SR FW TB md_X17_othersOf 33 (.ior, 0, 0, 0, []) := io_plain (by decide +kernel) rfl
theorem r_X17_othersOf_34 : IOK WB AD SR FW TB md_X17_othersOf 34 (.ireturn, 0, 0, 0, []) := io_plain (by decide +kernel) rfl
set_option maxRecDepth 100000 in
theorem ok_X17_othersOf_0 : ∀ q ∈ tl_X17_othersOf, IOK WB AD SR FW TB md_X17_othersOf q.1 q.2 := List.forall_mem_cons.mpr ⟨r_X17_othersOf_0, List.forall_mem_cons.mpr ⟨r_X17_othersOf_1, List.forall_mem_cons.mpr ⟨r_X17_othersOf_4, List.forall_mem_cons.mpr ⟨r_X17_othersOf_7, List.forall_mem_cons.mpr ⟨r_X17_othersOf_8, List.forall_mem_cons.mpr ⟨r_X17_othersOf_11, List.forall_mem_cons.mpr ⟨r_X17_othersOf_14, List.forall_mem_cons.mpr ⟨r_X17_othersOf_15, List.forall_mem_cons.mpr ⟨r_X17_othersOf_33, List.forall_mem_cons.mpr ⟨r_X17_othersOf_34, fun _ h => absurd h List.not_mem_nil⟩⟩⟩⟩⟩⟩⟩⟩⟩⟩
set_option maxRecDepth 100000 in
theorem tq_X17_othersOf_0 : tf_X17_othersOf = tl_X17_othersOf.map (fun q => (q.1, stepOf NPf md_X17_othersOf q.2)) := rfl
theorem ro_X17_othersOf : RowsOK (md_X17_othersOf, tl_X17_othersOf) tf_X17_othersOf := ⟨tq_X17_othersOf_0, ok_X17_othersOf_0⟩
theorem r_X8_canBePattern_0 : IOK WB AD SR FW TB md_X8_canBePattern 0 (.aload_n 0, 0, 0, 0, []) := io_plain (by decide +kernel) rfl
theorem r_X8_canBePattern_1 : IOK WB AD SR FW TB md_X8_canBePattern 1 (.iload_n 1, 0, 0, 0, []) := io_plain (by decide +kernel) rfl
theorem r_X8_canBePattern_2 : IOK WB AD SR FW TB md_X8_canBePattern 2 (.invokevirtual 67, 23, 9, 0, []) := io_virt (by decide +kernel) tb_X8_variablesAt (Or.inl (wb_4 166 rfl rfl)) in_X8_variablesAt se_X8_variablesAt ⟨_, rfl, rfl⟩ pr_X8_variablesAt (by decide)
theorem r_X8_canBePattern_5 : IOK WB AD SR FW TB md_X8_canBePattern 5 (.invokestatic 70, 84, 0, 0, []) := io_stat (by decide +kernel) tb_J6_bitCount_0f7a4 (Or.inl (wb_4 167 rfl rfl)) st_J6_bitCount_0f7a4 pr_J6_bitCount_0f7a4
theorem r_X8_canBePattern_8 : IOK WB AD SR FW TB md_X8_canBePattern 8 (.iconst 3, 0, 0, 0, []) := io_plain (by decide +kernel) rfl
theorem r_X8_canBePattern_9 : IOK WB AD SR FW TB md_X8_canBePattern 9 (.if_icmp .gt 7, 0, 0, 0, []) := io_plain (by decide +kernel) rfl
theorem r_X8_canBePattern_12 : IOK WB AD SR FW TB md_X8_canBePattern 12 (.iconst 1, 0, 0, 0, []) := io_plain (by decide +kernel) rfl
theorem r_X8_canBePattern_13 : IOK WB AD SR FW TB md_X8_canBePattern 13 (.goto 4, 0, 0, 0, []) := io_plain (by decide +kernel) rfl
theorem r_X8_canBePattern_17 : IOK WB AD SR FW TB md_X8_canBePattern 17 (.ireturn, 0, 0, 0, []) := io_plain (by decide +kernel) rfl
set_option maxRecDepth 100000 in
theorem ok_X8_canBePattern_0 : ∀ q ∈ tl_X8_canBePattern, IOK WB AD SR FW TB md_X8_canBePattern q.1 q.2 := List.forall_mem_cons.mpr ⟨r_X8_canBePattern_0, List.forall_mem_cons.mpr ⟨r_X8_canBePattern_1, List.forall_mem_cons.mpr ⟨r_X8_canBePattern_2, List.forall_mem_cons.mpr ⟨r_X8_canBePattern_5, List.forall_mem_cons.mpr ⟨r_X8_canBePattern_8, List.forall_mem_cons.mpr ⟨r_X8_canBePattern_9, List.forall_mem_cons.mpr ⟨r_X8_canBePattern_12, List.forall_mem_cons.mpr ⟨r_X8_canBePattern_13, List.forall_mem_cons.mpr ⟨r_X8_canBePattern_17, fun _ h => absurd h List.not_mem_nil⟩⟩⟩⟩⟩⟩⟩⟩⟩
set_option maxRecDepth 100000 in
theorem tq_X8_canBePattern_0 : tf_X8_canBePattern = tl_X8_canBePattern.map (fun q => (q.1, stepOf NPf md_X8_canBePattern q.2)) := rfl
theorem ro_X8_canBePattern : RowsOK (md_X8_canBePattern, tl_X8_canBePattern) tf_X8_canBePattern := ⟨tq_X8_canBePattern_0, ok_X8_canBePattern_0⟩
theorem r_L_reduce_0 : IOK WB AD SR FW TB md_L_reduce 0 (.aload_n 1, 0, 0, 0, []) := io_plain (by decide +kernel) rfl
theorem r_L_reduce_1 : IOK WB AD SR FW TB md_L_reduce 1 (.iconst 0, 0, 0, 0, []) := io_plain (by decide +kernel) rfl
theorem r_L_reduce_2 : IOK WB AD SR FW TB md_L_reduce 2 (.aload_n 0, 0, 0, 0, []) := io_plain (by decide +kernel) rfl
theorem r_L_reduce_3 : IOK WB AD SR FW TB md_L_reduce 3 (.invokevirtual 67, 94, 11, 0, []) := io_virt (by decide +kernel) tb_X10_reduce (Or.inl (wb_6 3 rfl rfl)) in_X10_reduce se_X10_reduce ⟨_, rfl, rfl⟩ pr_X10_reduce (by decide)
theorem r_L_reduce_6 : IOK WB AD SR FW TB md_L_reduce 6 (.i2l, 0, 0, 0, []) := io_plain (by decide +kernel) rfl
theorem r_L_reduce_7 : IOK WB AD SR FW TB md_L_reduce 7 (.lastore, 0, 0, 0, []) := io_plain (by decide +kernel) rfl
theorem r_L_reduce_8 : IOK WB AD SR FW TB md_L_reduce 8 (.goto 6, 0, 0, 0, []) := io_plain (by decide +kernel) rfl
theorem r_L_reduce_14 : IOK WB AD SR FW TB md_L_reduce 14 (.iconst 0, 0, 0, 0, []) := io_plain (by decide +kernel) rfl
theorem r_L_reduce_15 : IOK WB AD SR FW TB md_L_reduce 15 (.ireturn, 0, 0, 0, []) := io_plain (by decide +kernel) rfl
set_option maxRecDepth 100000 in
theorem ok_L_reduce_0 : ∀ q ∈ tl_L_reduce, IOK WB AD SR FW TB md_L_reduce q.1 q.2 := List.forall_mem_cons.mpr ⟨r_L_reduce_0, List.forall_mem_cons.mpr ⟨r_L_reduce_1, List.forall_mem_cons.mpr ⟨r_L_reduce_2, List.forall_mem_cons.mpr ⟨r_L_reduce_3, List.forall_mem_cons.mpr ⟨r_L_reduce_6, List.forall_mem_cons.mpr ⟨r_L_reduce_7, List.forall_mem_cons.mpr ⟨r_L_reduce_8, List.forall_mem_cons.mpr ⟨r_L_reduce_14, List.forall_mem_cons.mpr ⟨r_L_reduce_15, fun _ h => absurd h List.not_mem_nil⟩⟩⟩⟩⟩⟩⟩⟩⟩
set_option maxRecDepth 100000 in
theorem tq_L_reduce_0 : tf_L_reduce = tl_L_reduce.map (fun q => (q.1, stepOf NPf md_L_reduce q.2)) := rfl
theorem ro_L_reduce : RowsOK (md_L_reduce, tl_L_reduce) tf_L_reduce := ⟨tq_L_reduce_0, ok_L_reduce_0⟩
theorem r_X17_isPattern_0 : IOK WB AD SR FW TB md_X17_isPattern 0 (.aload_n 0, 0, 0, 0, []) := io_plain (by decide +kernel) rfl
theorem r_X17_isPattern_1 : IOK WB AD SR FW TB md_X17_isPattern 1 (.invokevirtual 239, 38, 17, 0, []) := io_virt (by decide +kernel) tb_X16_variables (Or.inl (wb_8 163 rfl rfl)) in_X16_variables se_X16_variables ⟨_, rfl, rfl⟩ pr_X16_variables (by decide)
theorem r_X17_isPattern_4 : IOK WB AD SR FW TB md_X17_isPattern 4 (.invokestatic 163, 70, 18, 0, []) := io_stat (by decide +kernel) tb_X17_count (Or.inl (wb_8 199 rfl rfl)) st_X17_count pr_X17_count
theorem r_X17_isPattern_7 : IOK WB AD SR FW TB md_X17_isPattern 7 (.iconst 3, 0, 0, 0, []) := io_plain (by decide +kernel) rfl
theorem r_X17_isPattern_8 : IOK WB AD SR FW TB md_X17_isPattern 8 (.if_icmp .gt 7, 0, 0, 0, []) := io_plain (by decide +kernel) rfl
theorem r_X17_isPattern_11 : IOK WB AD SR FW TB md_X17_isPattern 11 (.iconst 1, 0, 0, 0, []) := io_plain (by decide +kernel) rfl
theorem r_X17_isPattern_12 : IOK WB AD SR FW TB md_X17_isPattern 12 (.goto 4, 0, 0, 0, []) := io_plain (by decide +kernel) rfl
theorem r_X17_isPattern_16 : IOK WB AD SR FW TB md_X17_isPattern 16 (.ireturn, 0, 0, 0, []) := io_plain (by decide +kernel) rfl
set_option maxRecDepth 100000 in
theorem ok_X17_isPattern_0 : ∀ q ∈ tl_X17_isPattern, IOK WB AD SR FW TB md_X17_isPattern q.1 q.2 := List.forall_mem_cons.mpr ⟨r_X17_isPattern_0, List.forall_mem_cons.mpr ⟨r_X17_isPattern_1, List.forall_mem_cons.mpr ⟨r_X17_isPattern_4, List.forall_mem_cons.mpr ⟨r_X17_isPattern_7, List.forall_mem_cons.mpr ⟨r_X17_isPattern_8, List.forall_mem_cons.mpr ⟨r_X17_isPattern_11, List.forall_mem_cons.mpr ⟨r_X17_isPattern_12, List.forall_mem_cons.mpr ⟨r_X17_isPattern_16, fun _ h => absurd h List.not_mem_nil⟩⟩⟩⟩⟩⟩⟩⟩
set_option maxRecDepth 100000 in
theorem tq_X17_isPattern_0 : tf_X17_isPattern = tl_X17_isPattern.map (fun q => (q.1, stepOf NPf md_X17_isPattern q.2)) := rfl
theorem ro_X17_isPattern : RowsOK (md_X17_isPattern, tl_X17_isPattern) tf_X17_isPattern := ⟨tq_X17_isPattern_0, ok_X17_isPattern_0⟩
theorem r_X10_topAt_0 : IOK WB AD SR FW TB md_X10_topAt 0 (.aload_n 0, 0, 0, 0, []) := io_plain (by decide +kernel) rfl
theorem r_X10_topAt_1 : IOK WB AD SR FW TB md_X10_topAt 1 (.getfield 160, 11, 8, 0, []) := io_get (by decide +kernel) fo_RX10_160
theorem r_X10_topAt_4 : IOK WB AD SR FW TB md_X10_topAt 4 (.iconst 1, 0, 0, 0, []) := io_plain (by decide +kernel) rfl
theorem r_X10_topAt_5 : IOK WB AD SR FW TB md_X10_topAt 5 (.isub, 0, 0, 0, []) := io_plain (by decide +kernel) rfl
theorem r_X10_topAt_6 : IOK WB AD SR FW TB md_X10_topAt 6 (.invokestatic 176, 68, 11, 0, []) := io_stat (by decide +kernel) tb_X10_stackAt (Or.inl (wb_5 129 rfl rfl)) st_X10_stackAt pr_X10_stackAt
theorem r_X10_topAt_9 : IOK WB AD SR FW TB md_X10_topAt 9 (.ireturn, 0, 0, 0, []) := io_plain (by decide +kernel) rfl
set_option maxRecDepth 100000 in
theorem ok_X10_topAt_0 : ∀ q ∈ tl_X10_topAt, IOK WB AD SR FW TB md_X10_topAt q.1 q.2 := fun _ h => absurd h List.not_mem_nil
set_option maxRecDepth 100000 in
theorem tq_X10_topAt_0 : tf_X10_topAt = tl_X10_topAt.map (fun q => (q.1, stepOf NPf md_X10_topAt q.2)) := rfl
theorem ro_X10_topAt : RowsOK (md_X10_topAt, tl_X10_topAt) tf_X10_topAt := ⟨tq_X10_topAt_0, ok_X10_topAt_0⟩
theorem r_Jx4a65c_isEmpty_aae02_0 : IOK WB AD SR FW TB md_Jx4a65c_isEmpty_aae02 0 (.aload_n 0, 0, 0, 0, []) := io_plain (by decide +kernel) rfl
theorem r_Jx4a65c_isEmpty_aae02_1 : IOK WB AD SR FW TB md_Jx4a65c_isEmpty_aae02 1 (.getfield 48, 0, 2, 0, []) := io_get (by decide +kernel) fo_RJx4a65c_48
theorem r_Jx4a65c_isEmpty_aae02_4 : IOK WB AD SR FW TB md_Jx4a65c_isEmpty_aae02 4 (.ifCond .ne 7, 0, 0, 0, []) := io_plain (by decide +kernel) rfl
theorem r_Jx4a65c_isEmpty_aae02_11 : IOK WB AD SR FW TB md_Jx4a65c_isEmpty_aae02 11 (.iconst 0, 0, 0, 0, []) := io_plain (by decide +kernel) rfl
theorem r_Jx4a65c_isEmpty_aae02_12 : IOK WB AD SR FW TB md_Jx4a65c_isEmpty_aae02 12 (.ireturn, 0, 0, 0, []) := io_plain (by decide +kernel) rfl
set_option maxRecDepth 100000 in
theorem ok_Jx4a65c_isEmpty_aae02_0 : ∀ q ∈ tl_Jx4a65c_isEmpty_aae02, IOK WB AD SR FW TB md_Jx4a65c_isEmpty_aae02 q.1 q.2 := List.forall_mem_cons.mpr ⟨r_Jx4a65c_isEmpty_aae02_0, List.forall_mem_cons.mpr ⟨r_Jx4a65c_isEmpty_aae02_1, List.forall_mem_cons.mpr ⟨r_Jx4a65c_isEmpty_aae02_4, List.forall_mem_cons.mpr ⟨r_Jx4a65c_isEmpty_aae02_11, List.forall_mem_cons.mpr ⟨r_Jx4a65c_isEmpty_aae02_12, fun _ h => absurd h List.not_mem_nil⟩⟩⟩⟩⟩
set_option maxRecDepth 100000 in
theorem tq_Jx4a65c_isEmpty_aae02_0 : tf_Jx4a65c_isEmpty_aae02 = tl_Jx4a65c_isEmpty_aae02.map (fun q => (q.1, stepOf NPf md_Jx4a65c_isEmpty_aae02 q.2)) := rfl
theorem ro_Jx4a65c_isEmpty_aae02 : RowsOK (md_Jx4a65c_isEmpty_aae02, tl_Jx4a65c_isEmpty_aae02) tf_Jx4a65c_isEmpty_aae02 := ⟨tq_Jx4a65c_isEmpty_aae02_0, ok_Jx4a65c_isEmpty_aae02_0⟩
theorem r_X13_init_0 : IOK WB AD SR FW TB md_X13_init 0 (.aload_n 0, 0, 0, 0, []) := io_plain (by decide +kernel) rfl
theorem r_X13_init_1 : IOK WB AD SR FW TB md_X13_init 1 (.invokespecial 1, 1000, 0, 0, []) := io_obj (by decide +kernel) (wb_10 70 rfl rfl) ob_1 ob_2
theorem r_X13_init_4 : IOK WB AD SR FW TB md_X13_init 4 (.return_, 0, 0, 0, []) := io_void (by decide +kernel) rfl
set_option maxRecDepth 100000 in
theorem ok_X13_init_0 : ∀ q ∈ tl_X13_init, IOK WB AD SR FW TB md_X13_init q.1 q.2 := List.forall_mem_cons.mpr ⟨r_X13_init_0, List.forall_mem_cons.mpr ⟨r_X13_init_1, List.forall_mem_cons.mpr ⟨r_X13_init_4, fun _ h => absurd h List.not_mem_nil⟩⟩⟩
set_option maxRecDepth 100000 in
theorem tq_X13_init_0 : tf_X13_init = tl_X13_init.map (fun q => (q.1, stepOf NPf md_X13_init q.2)) := rfl
theorem ro_X13_init : RowsOK (md_X13_init, tl_X13_init) tf_X13_init := ⟨tq_X13_init_0, ok_X13_init_0⟩
theorem r_X15_init_0 : IOK WB AD SR FW TB md_X15_init 0 (.aload_n 0, 0, 0, 0, []) := io_plain (by decide +kernel) rfl
theorem r_X15_init_1 : IOK WB AD SR FW TB md_X15_init 1 (.invokespecial 1, 1000, 0, 0, []) := io_obj (by decide +kernel) (wb_8 69 rfl rfl) ob_1 ob_2
theorem r_X15_init_4 : IOK WB AD SR FW TB md_X15_init 4 (.return_, 0, 0, 0, []) := io_void (by decide +kernel) rfl
set_option maxRecDepth 100000 in
theorem ok_X15_init_0 : ∀ q ∈ tl_X15_init, IOK WB AD SR FW TB md_X15_init q.1 q.2 := List.forall_mem_cons.mpr ⟨r_X15_init_0, List.forall_mem_cons.mpr ⟨r_X15_init_1, List.forall_mem_cons.mpr ⟨r_X15_init_4, fun _ h => absurd h List.not_mem_nil⟩⟩⟩
set_option maxRecDepth 100000 in
theorem tq_X15_init_0 : tf_X15_init = tl_X15_init.map (fun q => (q.1, stepOf NPf md_X15_init q.2)) := rfl
theorem ro_X15_init : RowsOK (md_X15_init, tl_X15_init) tf_X15_init := ⟨tq_X15_init_0, ok_X15_init_0⟩
