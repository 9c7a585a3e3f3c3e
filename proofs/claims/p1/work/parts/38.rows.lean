theorem ro_X17_apply : RowsOK (md_X17_apply, tl_X17_apply) tf_X17_apply := ⟨tq_X17_apply_0, ok_X17_apply_0⟩
theorem r_X14_init_0 : IOK WB AD SR FW TB md_X14_init 0 (.aload_n 0, 0, 0, 0, []) := io_plain (by decide +kernel) rfl
theorem r_X14_init_1 : IOK WB AD SR FW TB md_X14_init 1 (.invokespecial 1, 1000, 0, 0, []) := io_obj (by decide +kernel) (wb_9 143 rfl rfl) ob_1 ob_2
theorem r_X14_init_4 : IOK WB AD SR FW TB md_X14_init 4 (.aload_n 0, 0, 0, 0, []) := io_plain (by decide +kernel) rfl
theorem r_X14_init_5 : IOK WB AD SR FW TB md_X14_init 5 (.iload_n 1, 0, 0, 0, []) := io_plain (by decide +kernel) rfl
theorem r_X14_init_6 : IOK WB AD SR FW TB md_X14_init 6 (.putfield 7, 15, 0, 0, []) := io_put (by decide +kernel) fo_RX14_7 po_RX14_1_15_0_0
theorem r_X14_init_9 : IOK WB AD SR FW TB md_X14_init 9 (.aload_n 0, 0, 0, 0, []) := io_plain (by decide +kernel) rfl
theorem r_X14_init_10 : IOK WB AD SR FW TB md_X14_init 10 (.iload_n 2, 0, 0, 0, []) := io_plain (by decide +kernel) rfl
theorem r_X14_init_11 : IOK WB AD SR FW TB md_X14_init 11 (.putfield 13, 15, 1, 0, []) := io_put (by decide +kernel) fo_RX14_13 po_RX14_1_15_1_0
theorem r_X14_init_14 : IOK WB AD SR FW TB md_X14_init 14 (.aload_n 0, 0, 0, 0, []) := io_plain (by decide +kernel) rfl
theorem r_X14_init_15 : IOK WB AD SR FW TB md_X14_init 15 (.aload_n 3, 0, 0, 0, []) := io_plain (by decide +kernel) rfl
theorem r_X14_init_16 : IOK WB AD SR FW TB md_X14_init 16 (.putfield 16, 15, 2, 2, []) := io_put (by decide +kernel) fo_RX14_16 po_RX14_1_15_2_2
theorem r_X14_init_19 : IOK WB AD SR FW TB md_X14_init 19 (.aload_n 0, 0, 0, 0, []) := io_plain (by decide +kernel) rfl
theorem r_X14_init_20 : IOK WB AD SR FW TB md_X14_init 20 (.aload 4, 0, 0, 0, []) := io_plain (by decide +kernel) rfl
theorem r_X14_init_22 : IOK WB AD SR FW TB md_X14_init 22 (.putfield 20, 15, 3, 2, []) := io_put (by decide +kernel) fo_RX14_20 po_RX14_1_15_3_2
theorem r_X14_init_25 : IOK WB AD SR FW TB md_X14_init 25 (.aload_n 0, 0, 0, 0, []) := io_plain (by decide +kernel) rfl
theorem r_X14_init_26 : IOK WB AD SR FW TB md_X14_init 26 (.aload 5, 0, 0, 0, []) := io_plain (by decide +kernel) rfl
theorem r_X14_init_28 : IOK WB AD SR FW TB md_X14_init 28 (.putfield 24, 15, 4, 2, []) := io_put (by decide +kernel) fo_RX14_24 po_RX14_1_15_4_2
theorem r_X14_init_31 : IOK WB AD SR FW TB md_X14_init 31 (.aload_n 0, 0, 0, 0, []) := io_plain (by decide +kernel) rfl
theorem r_X14_init_32 : IOK WB AD SR FW TB md_X14_init 32 (.iconst 1, 0, 0, 0, []) := io_plain (by decide +kernel) rfl
theorem r_X14_init_33 : IOK WB AD SR FW TB md_X14_init 33 (.aload 4, 0, 0, 0, []) := io_plain (by decide +kernel) rfl
theorem r_X14_init_35 : IOK WB AD SR FW TB md_X14_init 35 (.ifnonnull 7, 0, 0, 0, []) := io_plain (by decide +kernel) rfl
theorem r_X14_init_38 : IOK WB AD SR FW TB md_X14_init 38 (.iconst 0, 0, 0, 0, []) := io_plain (by decide +kernel) rfl
theorem r_X14_init_39 : IOK WB AD SR FW TB md_X14_init 39 (.goto 8, 0, 0, 0, []) := io_plain (by decide +kernel) rfl
theorem r_X14_init_47 : IOK WB AD SR FW TB md_X14_init 47 (.iadd, 0, 0, 0, []) := io_plain (by decide +kernel) rfl
theorem r_X14_init_48 : IOK WB AD SR FW TB md_X14_init 48 (.aload 5, 0, 0, 0, []) := io_plain (by decide +kernel) rfl
theorem r_X14_init_50 : IOK WB AD SR FW TB md_X14_init 50 (.ifnonnull 7, 0, 0, 0, []) := io_plain (by decide +kernel) rfl
theorem r_X14_init_53 : IOK WB AD SR FW TB md_X14_init 53 (.iconst 0, 0, 0, 0, []) := io_plain (by decide +kernel) rfl
theorem r_X14_init_54 : IOK WB AD SR FW TB md_X14_init 54 (.goto 8, 0, 0, 0, []) := io_plain (by decide +kernel) rfl
theorem r_X14_init_62 : IOK WB AD SR FW TB md_X14_init 62 (.iadd, 0, 0, 0, []) := io_plain (by decide +kernel) rfl
theorem r_X14_init_63 : IOK WB AD SR FW TB md_X14_init 63 (.putfield 27, 15, 5, 0, []) := io_put (by decide +kernel) fo_RX14_27 po_RX14_1_15_5_0
theorem r_X14_init_66 : IOK WB AD SR FW TB md_X14_init 66 (.return_, 0, 0, 0, []) := io_void (by decide +kernel) rfl
set_option maxRecDepth 100000 in
theorem ok_X14_init_0 : ∀ q ∈ tl_X14_init, IOK WB AD SR FW TB md_X14_init q.1 q.2 := List.forall_mem_cons.mpr ⟨r_X14_init_0, List.forall_mem_cons.mpr ⟨r_X14_init_1, List.forall_mem_cons.mpr ⟨r_X14_init_4, List.forall_mem_cons.mpr ⟨r_X14_init_5, List.forall_mem_cons.mpr ⟨r_X14_init_6, List.forall_mem_cons.mpr ⟨r_X14_init_9, List.forall_mem_cons.mpr ⟨r_X14_init_10, List.forall_mem_cons.mpr ⟨r_X14_init_11, List.forall_mem_cons.mpr ⟨r_X14_init_14, List.forall_mem_cons.mpr ⟨r_X14_init_15, List.forall_mem_cons.mpr ⟨r_X14_init_16, List.forall_mem_cons.mpr ⟨r_X14_init_19, List.forall_mem_cons.mpr ⟨r_X14_init_20, List.forall_mem_cons.mpr ⟨r_X14_init_22, List.forall_mem_cons.mpr ⟨r_X14_init_25, List.forall_mem_cons.mpr ⟨r_X14_init_26, List.forall_mem_cons.mpr ⟨r_X14_init_28, List.forall_mem_cons.mpr ⟨r_X14_init_31, List.forall_mem_cons.mpr ⟨r_X14_init_32, List.forall_mem_cons.mpr ⟨r_X14_init_33, List.forall_mem_cons.mpr ⟨r_X14_init_35, List.forall_mem_cons.mpr ⟨r_X14_init_38, List.forall_mem_cons.mpr ⟨r_X14_init_39, List.forall_mem_cons.mpr ⟨r_X14_init_47, List.forall_mem_cons.mpr ⟨r_X14_init_48, List.forall_mem_cons.mpr ⟨r_X14_init_50, List.forall_mem_cons.mpr ⟨r_X14_init_53, List.forall_mem_cons.mpr ⟨r_X14_init_54, List.forall_mem_cons.mpr ⟨r_X14_init_62, List.forall_mem_cons.mpr ⟨r_X14_init_63, List.forall_mem_cons.mpr ⟨r_X14_init_66, fun _ h => absurd h List.not_mem_nil⟩⟩⟩⟩⟩⟩⟩⟩⟩⟩⟩⟩⟩⟩⟩⟩⟩⟩⟩⟩⟩⟩⟩⟩⟩⟩⟩⟩⟩⟩⟩
set_option maxRecDepth 100000 in
theorem tq_X14_init_0 : tf_X14_init = tl_X14_init.map (fun q => (q.1, stepOf NPf md_X14_init q.2)) := rfl
theorem ro_X14_init : RowsOK (md_X14_init, tl_X14_init) tf_X14_init := ⟨tq_X14_init_0, ok_X14_init_0⟩
theorem r_X0_bringUpToDate_0 : IOK WB AD SR FW TB md_X0_bringUpToDate 0 (.aload_n 0, 0, 0, 0, []) := io_plain (by decide +kernel) rfl
theorem r_X0_bringUpToDate_1 : IOK WB AD SR FW TB md_X0_bringUpToDate 1 (.getfield 51, 1, 8, 0, []) := io_get (by decide +kernel) fo_RX0_51
theorem r_X0_bringUpToDate_4 : IOK WB AD SR FW TB md_X0_bringUpToDate 4 (.aload_n 0, 0, 0, 0, []) := io_plain (by decide +kernel) rfl
theorem r_X0_bringUpToDate_5 : IOK WB AD SR FW TB md_X0_bringUpToDate 5 (.getfield 46, 1, 2, 2, []) := io_get (by decide +kernel) fo_RX0_46
theorem r_X0_bringUpToDate_8 : IOK WB AD SR FW TB md_X0_bringUpToDate 8 (.getfield 55, 3, 2, 0, []) := io_get (by decide +kernel) fo_RX0_55
theorem r_X0_bringUpToDate_11 : IOK WB AD SR FW TB md_X0_bringUpToDate 11 (.if_icmp .ne 4, 0, 0, 0, []) := io_plain (by decide +kernel) rfl
theorem r_X0_bringUpToDate_14 : IOK WB AD SR FW TB md_X0_bringUpToDate 14 (.return_, 0, 0, 0, []) := io_void (by decide +kernel) rfl
set_option maxRecDepth 100000 in
theorem ok_X0_bringUpToDate_0 : ∀ q ∈ tl_X0_bringUpToDate, IOK WB AD SR FW TB md_X0_bringUpToDate q.1 q.2 := List.forall_mem_cons.mpr ⟨r_X0_bringUpToDate_0, List.forall_mem_cons.mpr ⟨r_X0_bringUpToDate_1, List.forall_mem_cons.mpr ⟨r_X0_bringUpToDate_4, List.forall_mem_cons.mpr ⟨r_X0_bringUpToDate_5, List.forall_mem_cons.mpr ⟨r_X0_bringUpToDate_8, List.forall_mem_cons.mpr ⟨r_X0_bringUpToDate_11, List.forall_mem_cons.mpr ⟨r_X0_bringUpToDate_14, fun _ h => absurd h List.not_mem_nil⟩⟩⟩⟩⟩⟩⟩
set_option maxRecDepth 100000 in
theorem tq_X0_bringUpToDate_0 : tf_X0_bringUpToDate = tl_X0_bringUpToDate.map (fun q => (q.1, stepOf NPf md_X0_bringUpToDate q.2)) := rfl
theorem ro_X0_bringUpToDate : RowsOK (md_X0_bringUpToDate, tl_X0_bringUpToDate) tf_X0_bringUpToDate := ⟨tq_X0_bringUpToDate_0, ok_X0_bringUpToDate_0⟩
theorem r_X17_below_0 : IOK WB AD SR FW TB md_X17_below 0 (.aload_n 0, 0, 0, 0, []) := io_plain (by decide +kernel) rfl
theorem r_X17_below_1 : IOK WB AD SR FW TB md_X17_below 1 (.aload_n 0, 0, 0, 0, []) := io_plain (by decide +kernel) rfl
theorem r_X17_below_2 : IOK WB AD SR FW TB md_X17_below 2 (.iload_n 1, 0, 0, 0, []) := io_plain (by decide +kernel) rfl
theorem r_X17_below_3 : IOK WB AD SR FW TB md_X17_below 3 (.invokevirtual 531, 61, 18, 0, []) := io_virt (by decide +kernel) tb_X17_isSort (wb_10 129 rfl rfl) in_X17_isSort se_X17_isSort ⟨_, rfl, rfl⟩ pr_X17_isSort (by decide)
theorem r_X17_below_6 : IOK WB AD SR FW TB md_X17_below 6 (.ifCond .eq 11, 0, 0, 0, []) := io_plain (by decide +kernel) rfl
theorem r_X17_below_17 : IOK WB AD SR FW TB md_X17_below 17 (.iconst 1, 0, 0, 0, []) := io_plain (by decide +kernel) rfl
theorem r_X17_below_18 : IOK WB AD SR FW TB md_X17_below 18 (.goto 17, 0, 0, 0, []) := io_plain (by decide +kernel) rfl
theorem r_X17_below_35 : IOK WB AD SR FW TB md_X17_below 35 (.putfield 114, 18, 0, 0, []) := io_put (by decide +kernel) fo_RX17_114 po_RX17_0_18_0_0
theorem r_X17_below_38 : IOK WB AD SR FW TB md_X17_below 38 (.aload_n 0, 0, 0, 0, []) := io_plain (by decide +kernel) rfl
theorem r_X17_below_39 : IOK WB AD SR FW TB md_X17_below 39 (.getfield 114, 18, 0, 0, []) := io_get (by decide +kernel) fo_RX17_114
theorem r_X17_below_42 : IOK WB AD SR FW TB md_X17_below 42 (.ifCond .le 5, 0, 0, 0, []) := io_plain (by decide +kernel) rfl
theorem r_X17_below_45 : IOK WB AD SR FW TB md_X17_below 45 (.iconst 0, 0, 0, 0, []) := io_plain (by decide +kernel) rfl
theorem r_X17_below_46 : IOK WB AD SR FW TB md_X17_below 46 (.ireturn, 0, 0, 0, []) := io_plain (by decide +kernel) rfl
set_option maxRecDepth 100000 in
theorem ok_X17_below_0 : ∀ q ∈ tl_X17_below, IOK WB AD SR FW TB md_X17_below q.1 q.2 := List.forall_mem_cons.mpr ⟨r_X17_below_0, List.forall_mem_cons.mpr ⟨r_X17_below_1, List.forall_mem_cons.mpr ⟨r_X17_below_2, List.forall_mem_cons.mpr ⟨r_X17_below_3, List.forall_mem_cons.mpr ⟨r_X17_below_6, List.forall_mem_cons.mpr ⟨r_X17_below_17, List.forall_mem_cons.mpr ⟨r_X17_below_18, List.forall_mem_cons.mpr ⟨r_X17_below_35, List.forall_mem_cons.mpr ⟨r_X17_below_38, List.forall_mem_cons.mpr ⟨r_X17_below_39, List.forall_mem_cons.mpr ⟨r_X17_below_42, List.forall_mem_cons.mpr ⟨r_X17_below_45, List.forall_mem_cons.mpr ⟨r_X17_below_46, fun _ h => absurd h List.not_mem_nil⟩⟩⟩⟩⟩⟩⟩⟩⟩⟩⟩⟩⟩
set_option maxRecDepth 100000 in
theorem tq_X17_below_0 : tf_X17_below = tl_X17_below.map (fun q => (q.1, stepOf NPf md_X17_below q.2)) := rfl
theorem ro_X17_below : RowsOK (md_X17_below, tl_X17_below) tf_X17_below := ⟨tq_X17_below_0, ok_X17_below_0⟩
theorem r_X17_variable_0 : IOK WB AD SR FW TB md_X17_variable 0 (.aload_n 0, 0, 0, 0, []) := io_plain (by decide +kernel) rfl
theorem r_X17_variable_1 : IOK WB AD SR FW TB md_X17_variable 1 (.aload_n 0, 0, 0, 0, []) := io_plain (by decide +kernel) rfl
theorem r_X17_variable_2 : IOK WB AD SR FW TB md_X17_variable 2 (.iload_n 2, 0, 0, 0, []) := io_plain (by decide +kernel) rfl
theorem r_X17_variable_3 : IOK WB AD SR FW TB md_X17_variable 3 (.invokevirtual 531, 61, 18, 0, []) := io_virt (by decide +kernel) tb_X17_isSort (wb_10 129 rfl rfl) in_X17_isSort se_X17_isSort ⟨_, rfl, rfl⟩ pr_X17_isSort (by decide)
theorem r_X17_variable_6 : IOK WB AD SR FW TB md_X17_variable 6 (.ifCond .ne 7, 0, 0, 0, []) := io_plain (by decide +kernel) rfl
theorem r_X17_variable_9 : IOK WB AD SR FW TB md_X17_variable 9 (.iconst 1, 0, 0, 0, []) := io_plain (by decide +kernel) rfl
theorem r_X17_variable_10 : IOK WB AD SR FW TB md_X17_variable 10 (.goto 29, 0, 0, 0, []) := io_plain (by decide +kernel) rfl
theorem r_X17_variable_39 : IOK WB AD SR FW TB md_X17_variable 39 (.putfield 114, 18, 0, 0, []) := io_put (by decide +kernel) fo_RX17_114 po_RX17_0_18_0_0
theorem r_X17_variable_42 : IOK WB AD SR FW TB md_X17_variable 42 (.aload_n 0, 0, 0, 0, []) := io_plain (by decide +kernel) rfl
theorem r_X17_variable_43 : IOK WB AD SR FW TB md_X17_variable 43 (.getfield 114, 18, 0, 0, []) := io_get (by decide +kernel) fo_RX17_114
theorem r_X17_variable_46 : IOK WB AD SR FW TB md_X17_variable 46 (.ifCond .le 5, 0, 0, 0, []) := io_plain (by decide +kernel) rfl
theorem r_X17_variable_49 : IOK WB AD SR FW TB md_X17_variable 49 (.iconst 0, 0, 0, 0, []) := io_plain (by decide +kernel) rfl
theorem r_X17_variable_50 : IOK WB AD SR FW TB md_X17_variable 50 (.ireturn, 0, 0, 0, []) := io_plain (by decide +kernel) rfl
set_option maxRecDepth 100000 in
theorem ok_X17_variable_0 : ∀ q ∈ tl_X17_variable, IOK WB AD SR FW TB md_X17_variable q.1 q.2 := List.forall_mem_cons.mpr ⟨r_X17_variable_0, List.forall_mem_cons.mpr ⟨r_X17_variable_1, List.forall_mem_cons.mpr ⟨r_X17_variable_2, List.forall_mem_cons.mpr ⟨r_X17_variable_3, List.forall_mem_cons.mpr ⟨r_X17_variable_6, List.forall_mem_cons.mpr ⟨r_X17_variable_9, List.forall_mem_cons.mpr ⟨r_X17_variable_10, List.forall_mem_cons.mpr ⟨r_X17_variable_39, List.forall_mem_cons.mpr ⟨r_X17_variable_42, List.forall_mem_cons.mpr ⟨r_X17_variable_43, List.forall_mem_cons.mpr ⟨r_X17_variable_46, List.forall_mem_cons.mpr ⟨r_X17_variable_49, List.forall_mem_cons.mpr ⟨r_X17_variable_50, fun _ h => absurd h List.not_mem_nil⟩⟩⟩⟩⟩⟩⟩⟩⟩⟩⟩⟩⟩
set_option maxRecDepth 100000 in
theorem tq_X17_variable_0 : tf_X17_variable = tl_X17_variable.map (fun q => (q.1, stepOf NPf md_X17_variable q.2)) := rfl
theorem ro_X17_variable : RowsOK (md_X17_variable, tl_X17_variable) tf_X17_variable := ⟨tq_X17_variable_0, ok_X17_variable_0⟩
theorem r_X7_hasSort_0 : IOK WB AD SR FW TB md_X7_hasSort 0 (.iload_n 1, 0, 0, 0, []) := io_plain (by decide +kernel) rfl
theorem r_X7_hasSort_1 : IOK WB AD SR FW TB md_X7_hasSort 1 (.ifCond .lt 15, 0, 0, 0, []) := io_plain (by decide +kernel) rfl
theorem r_X7_hasSort_4 : IOK WB AD SR FW TB md_X7_hasSort 4 (.iload_n 1, 0, 0, 0, []) := io_plain (by decide +kernel) rfl
theorem r_X7_hasSort_5 : IOK WB AD SR FW TB md_X7_hasSort 5 (.aload_n 0, 0, 0, 0, []) := io_plain (by decide +kernel) rfl
theorem r_X7_hasSort_6 : IOK WB AD SR FW TB md_X7_hasSort 6 (.getfield 45, 8, 0, 0, []) := io_get (by decide +kernel) fo_RX7_45
theorem r_X7_hasSort_9 : IOK WB AD SR FW TB md_X7_hasSort 9 (.if_icmp .ge 7, 0, 0, 0, []) := io_plain (by decide +kernel) rfl
theorem r_X7_hasSort_16 : IOK WB AD SR FW TB md_X7_hasSort 16 (.iconst 0, 0, 0, 0, []) := io_plain (by decide +kernel) rfl
theorem r_X7_hasSort_17 : IOK WB AD SR FW TB md_X7_hasSort 17 (.ireturn, 0, 0, 0, []) := io_plain (by decide +kernel) rfl
set_option maxRecDepth 100000 in
theorem ok_X7_hasSort_0 : ∀ q ∈ tl_X7_hasSort, IOK WB AD SR FW TB md_X7_hasSort q.1 q.2 := List.forall_mem_cons.mpr ⟨r_X7_hasSort_0, List.forall_mem_cons.mpr ⟨r_X7_hasSort_1, List.forall_mem_cons.mpr ⟨r_X7_hasSort_4, List.forall_mem_cons.mpr ⟨r_X7_hasSort_5, List.forall_mem_cons.mpr ⟨r_X7_hasSort_6, List.forall_mem_cons.mpr ⟨r_X7_hasSort_9, List.forall_mem_cons.mpr ⟨r_X7_hasSort_16, List.forall_mem_cons.mpr ⟨r_X7_hasSort_17, fun _ h => absurd h List.not_mem_nil⟩⟩⟩⟩⟩⟩⟩⟩
set_option maxRecDepth 100000 in
theorem tq_X7_hasSort_0 : tf_X7_hasSort = tl_X7_hasSort.map (fun q => (q.1, stepOf NPf md_X7_hasSort q.2)) := rfl
theorem ro_X7_hasSort : RowsOK (md_X7_hasSort, tl_X7_hasSort) tf_X7_hasSort := ⟨tq_X7_hasSort_0, ok_X7_hasSort_0⟩
theorem r_X17_sort_0 : IOK WB AD SR FW TB md_X17_sort 0 (.aload_n 0, 0, 0, 0, []) := io_plain (by decide +kernel) rfl
theorem r_X17_sort_1 : IOK WB AD SR FW TB md_X17_sort 1 (.aload_n 0, 0, 0, 0, []) := io_plain (by decide +kernel) rfl
theorem r_X17_sort_2 : IOK WB AD SR FW TB md_X17_sort 2 (.getfield 528, 18, 1, 0, []) := io_get (by decide +kernel) fo_RX17_528
theorem r_X17_sort_5 : IOK WB AD SR FW TB md_X17_sort 5 (.bipush 8, 0, 0, 0, []) := io_plain (by decide +kernel) rfl
theorem r_X17_sort_7 : IOK WB AD SR FW TB md_X17_sort 7 (.if_icmp .ne 7, 0, 0, 0, []) := io_plain (by decide +kernel) rfl
theorem r_X17_sort_14 : IOK WB AD SR FW TB md_X17_sort 14 (.iconst 0, 0, 0, 0, []) := io_plain (by decide +kernel) rfl
theorem r_X17_sort_15 : IOK WB AD SR FW TB md_X17_sort 15 (.putfield 114, 18, 0, 0, []) := io_put (by decide +kernel) fo_RX17_114 po_RX17_0_18_0_0
theorem r_X17_sort_18 : IOK WB AD SR FW TB md_X17_sort 18 (.aload_n 0, 0, 0, 0, []) := io_plain (by decide +kernel) rfl
theorem r_X17_sort_19 : IOK WB AD SR FW TB md_X17_sort 19 (.dup, 0, 0, 0, []) := io_plain (by decide +kernel) rfl
theorem r_X17_sort_20 : IOK WB AD SR FW TB md_X17_sort 20 (.getfield 528, 18, 1, 0, []) := io_get (by decide +kernel) fo_RX17_528
theorem r_X17_sort_23 : IOK WB AD SR FW TB md_X17_sort 23 (.aload_n 0, 0, 0, 0, []) := io_plain (by decide +kernel) rfl
theorem r_X17_sort_24 : IOK WB AD SR FW TB md_X17_sort 24 (.getfield 114, 18, 0, 0, []) := io_get (by decide +kernel) fo_RX17_114
theorem r_X17_sort_27 : IOK WB AD SR FW TB md_X17_sort 27 (.ifCond .le 7, 0, 0, 0, []) := io_plain (by decide +kernel) rfl
theorem r_X17_sort_34 : IOK WB AD SR FW TB md_X17_sort 34 (.iconst 1, 0, 0, 0, []) := io_plain (by decide +kernel) rfl
theorem r_X17_sort_35 : IOK WB AD SR FW TB md_X17_sort 35 (.iadd, 0, 0, 0, []) := io_plain (by decide +kernel) rfl
theorem r_X17_sort_36 : IOK WB AD SR FW TB md_X17_sort 36 (.putfield 528, 18, 1, 0, []) := io_put (by decide +kernel) fo_RX17_528 po_RX17_0_18_1_0
theorem r_X17_sort_39 : IOK WB AD SR FW TB md_X17_sort 39 (.aload_n 0, 0, 0, 0, []) := io_plain (by decide +kernel) rfl
theorem r_X17_sort_40 : IOK WB AD SR FW TB md_X17_sort 40 (.getfield 114, 18, 0, 0, []) := io_get (by decide +kernel) fo_RX17_114
theorem r_X17_sort_43 : IOK WB AD SR FW TB md_X17_sort 43 (.ifCond .le 7, 0, 0, 0, []) := io_plain (by decide +kernel) rfl
theorem r_X17_sort_50 : IOK WB AD SR FW TB md_X17_sort 50 (.aload_n 0, 0, 0, 0, []) := io_plain (by decide +kernel) rfl
theorem r_X17_sort_51 : IOK WB AD SR FW TB md_X17_sort 51 (.getfield 528, 18, 1, 0, []) := io_get (by decide +kernel) fo_RX17_528
theorem r_X17_sort_54 : IOK WB AD SR FW TB md_X17_sort 54 (.iconst 1, 0, 0, 0, []) := io_plain (by decide +kernel) rfl
theorem r_X17_sort_55 : IOK WB AD SR FW TB md_X17_sort 55 (.isub, 0, 0, 0, []) := io_plain (by decide +kernel) rfl
theorem r_X17_sort_56 : IOK WB AD SR FW TB md_X17_sort 56 (.ireturn, 0, 0, 0, []) := io_plain (by decide +kernel) rfl
set_option maxRecDepth 100000 in
theorem ok_X17_sort_0 : ∀ q ∈ tl_X17_sort, IOK WB AD SR FW TB md_X17_sort q.1 q.2 := List.forall_mem_cons.mpr ⟨r_X17_sort_0, List.forall_mem_cons.mpr ⟨r_X17_sort_1, List.forall_mem_cons.mpr ⟨r_X17_sort_2, List.forall_mem_cons.mpr ⟨r_X17_sort_5, List.forall_mem_cons.mpr ⟨r_X17_sort_7, List.forall_mem_cons.mpr ⟨r_X17_sort_14, List.forall_mem_cons.mpr ⟨r_X17_sort_15, List.forall_mem_cons.mpr ⟨r_X17_sort_18, List.forall_mem_cons.mpr ⟨r_X17_sort_19, List.forall_mem_cons.mpr ⟨r_X17_sort_20, List.forall_mem_cons.mpr ⟨r_X17_sort_23, List.forall_mem_cons.mpr ⟨r_X17_sort_24, List.forall_mem_cons.mpr ⟨r_X17_sort_27, List.forall_mem_cons.mpr ⟨r_X17_sort_34, List.forall_mem_cons.mpr ⟨r_X17_sort_35, List.forall_mem_cons.mpr ⟨r_X17_sort_36, List.forall_mem_cons.mpr ⟨r_X17_sort_39, List.forall_mem_cons.mpr ⟨r_X17_sort_40, List.forall_mem_cons.mpr ⟨r_X17_sort_43, List.forall_mem_cons.mpr ⟨r_X17_sort_50, List.forall_mem_cons.mpr ⟨r_X17_sort_51, List.forall_mem_cons.mpr ⟨r_X17_sort_54, List.forall_mem_cons.mpr ⟨r_X17_sort_55, List.forall_mem_cons.mpr ⟨r_X17_sort_56, fun _ h => absurd h List.not_mem_nil⟩⟩⟩⟩⟩⟩⟩⟩⟩⟩⟩⟩⟩⟩⟩⟩⟩⟩⟩⟩⟩⟩⟩⟩
set_option maxRecDepth 100000 in
theorem tq_X17_sort_0 : tf_X17_sort = tl_X17_sort.map (fun q => (q.1, stepOf NPf md_X17_sort q.2)) := rfl
theorem ro_X17_sort : RowsOK (md_X17_sort, tl_X17_sort) tf_X17_sort := ⟨tq_X17_sort_0, ok_X17_sort_0⟩
theorem r_L_declare_0 : IOK WB AD SR FW TB md_L_declare 0 (.aload 6, 0, 0, 0, []) := io_plain (by decide +kernel) rfl
theorem r_L_declare_2 : IOK WB AD SR FW TB md_L_declare 2 (.iconst 0, 0, 0, 0, []) := io_plain (by decide +kernel) rfl
theorem r_L_declare_3 : IOK WB AD SR FW TB md_L_declare 3 (.aload_n 0, 0, 0, 0, []) := io_plain (by decide +kernel) rfl
theorem r_L_declare_4 : IOK WB AD SR FW TB md_L_declare 4 (.iload_n 1, 0, 0, 0, []) := io_plain (by decide +kernel) rfl
theorem r_L_declare_5 : IOK WB AD SR FW TB md_L_declare 5 (.iload_n 2, 0, 0, 0, []) := io_plain (by decide +kernel) rfl
theorem r_L_declare_6 : IOK WB AD SR FW TB md_L_declare 6 (.iload_n 3, 0, 0, 0, []) := io_plain (by decide +kernel) rfl
theorem r_L_declare_7 : IOK WB AD SR FW TB md_L_declare 7 (.iload 4, 0, 0, 0, []) := io_plain (by decide +kernel) rfl
theorem r_L_declare_9 : IOK WB AD SR FW TB md_L_declare 9 (.iload 5, 0, 0, 0, []) := io_plain (by decide +kernel) rfl
theorem r_L_declare_11 : IOK WB AD SR FW TB md_L_declare 11 (.invokevirtual 31, 109, 11, 0, []) := io_virt (by decide +kernel) tb_X10_declare (wb_5 107 rfl rfl) in_X10_declare se_X10_declare ⟨_, rfl, rfl⟩ pr_X10_declare (by decide)
theorem r_L_declare_19 : IOK WB AD SR FW TB md_L_declare 19 (.astore 7, 0, 0, 0, []) := io_plain (by decide +kernel) rfl
theorem r_L_declare_21 : IOK WB AD SR FW TB md_L_declare 21 (.iconst 1, 0, 0, 0, []) := io_plain (by decide +kernel) rfl
theorem r_L_declare_22 : IOK WB AD SR FW TB md_L_declare 22 (.ireturn, 0, 0, 0, []) := io_plain (by decide +kernel) rfl
set_option maxRecDepth 100000 in
theorem ok_L_declare_0 : ∀ q ∈ tl_L_declare, IOK WB AD SR FW TB md_L_declare q.1 q.2 := List.forall_mem_cons.mpr ⟨r_L_declare_0, List.forall_mem_cons.mpr ⟨r_L_declare_2, List.forall_mem_cons.mpr ⟨r_L_declare_3, List.forall_mem_cons.mpr ⟨r_L_declare_4, List.forall_mem_cons.mpr ⟨r_L_declare_5, List.forall_mem_cons.mpr ⟨r_L_declare_6, List.forall_mem_cons.mpr ⟨r_L_declare_7, List.forall_mem_cons.mpr ⟨r_L_declare_9, List.forall_mem_cons.mpr ⟨r_L_declare_11, List.forall_mem_cons.mpr ⟨r_L_declare_19, List.forall_mem_cons.mpr ⟨r_L_declare_21, List.forall_mem_cons.mpr ⟨r_L_declare_22, fun _ h => absurd h List.not_mem_nil⟩⟩⟩⟩⟩⟩⟩⟩⟩⟩⟩⟩
set_option maxRecDepth 100000 in
theorem tq_L_declare_0 : tf_L_declare = tl_L_declare.map (fun q => (q.1, stepOf NPf md_L_declare q.2)) := rfl
theorem ro_L_declare : RowsOK (md_L_declare, tl_L_declare) tf_L_declare := ⟨tq_L_declare_0, ok_L_declare_0⟩
theorem r_L_keep_0 : IOK WB AD SR FW TB md_L_keep 0 (.aload_n 2, 0, 0, 0, []) := io_plain (by decide +kernel) rfl
theorem r_L_keep_1 : IOK WB AD SR FW TB md_L_keep 1 (.iconst 0, 0, 0, 0, []) := io_plain (by decide +kernel) rfl
theorem r_L_keep_2 : IOK WB AD SR FW TB md_L_keep 2 (.aload_n 0, 0, 0, 0, []) := io_plain (by decide +kernel) rfl
theorem r_L_keep_3 : IOK WB AD SR FW TB md_L_keep 3 (.iload_n 1, 0, 0, 0, []) := io_plain (by decide +kernel) rfl
theorem r_L_keep_4 : IOK WB AD SR FW TB md_L_keep 4 (.invokevirtual 42, 84, 11, 0, []) := io_virt (by decide +kernel) tb_X10_keep (wb_5 148 rfl rfl) in_X10_keep se_X10_keep ⟨_, rfl, rfl⟩ pr_X10_keep (by decide)
theorem r_L_keep_12 : IOK WB AD SR FW TB md_L_keep 12 (.astore_n 3, 0, 0, 0, []) := io_plain (by decide +kernel) rfl
theorem r_L_keep_13 : IOK WB AD SR FW TB md_L_keep 13 (.iconst 1, 0, 0, 0, []) := io_plain (by decide +kernel) rfl
theorem r_L_keep_14 : IOK WB AD SR FW TB md_L_keep 14 (.ireturn, 0, 0, 0, []) := io_plain (by decide +kernel) rfl
theorem r_L_keep_15 : IOK WB AD SR FW TB md_L_keep 15 (.astore_n 3, 0, 0, 0, []) := io_plain (by decide +kernel) rfl
theorem r_L_keep_16 : IOK WB AD SR FW TB md_L_keep 16 (.iconst 2, 0, 0, 0, []) := io_plain (by decide +kernel) rfl
theorem r_L_keep_17 : IOK WB AD SR FW TB md_L_keep 17 (.ireturn, 0, 0, 0, []) := io_plain (by decide +kernel) rfl
set_option maxRecDepth 100000 in
theorem ok_L_keep_0 : ∀ q ∈ tl_L_keep, IOK WB AD SR FW TB md_L_keep q.1 q.2 := List.forall_mem_cons.mpr ⟨r_L_keep_0, List.forall_mem_cons.mpr ⟨r_L_keep_1, List.forall_mem_cons.mpr ⟨r_L_keep_2, List.forall_mem_cons.mpr ⟨r_L_keep_3, List.forall_mem_cons.mpr ⟨r_L_keep_4, List.forall_mem_cons.mpr ⟨r_L_keep_12, List.forall_mem_cons.mpr ⟨r_L_keep_13, List.forall_mem_cons.mpr ⟨r_L_keep_14, List.forall_mem_cons.mpr ⟨r_L_keep_15, List.forall_mem_cons.mpr ⟨r_L_keep_16, List.forall_mem_cons.mpr ⟨r_L_keep_17, fun _ h => absurd h List.not_mem_nil⟩⟩⟩⟩⟩⟩⟩⟩⟩⟩⟩
set_option maxRecDepth 100000 in
theorem tq_L_keep_0 : tf_L_keep = tl_L_keep.map (fun q => (q.1, stepOf NPf md_L_keep q.2)) := rfl
theorem ro_L_keep : RowsOK (md_L_keep, tl_L_keep) tf_L_keep := ⟨tq_L_keep_0, ok_L_keep_0⟩
theorem r_L_holds_0 : IOK WB AD SR FW TB md_L_holds 0 (.aload_n 2, 0, 0, 0, []) := io_plain (by decide +kernel) rfl
theorem r_L_holds_1 : IOK WB AD SR FW TB md_L_holds 1 (.iconst 0, 0, 0, 0, []) := io_plain (by decide +kernel) rfl
theorem r_L_holds_2 : IOK WB AD SR FW TB md_L_holds 2 (.aload_n 0, 0, 0, 0, []) := io_plain (by decide +kernel) rfl
theorem r_L_holds_3 : IOK WB AD SR FW TB md_L_holds 3 (.iload_n 1, 0, 0, 0, []) := io_plain (by decide +kernel) rfl
theorem r_L_holds_4 : IOK WB AD SR FW TB md_L_holds 4 (.invokevirtual 88, 85, 11, 0, []) := io_virt (by decide +kernel) tb_X10_holds (wb_6 110 rfl rfl) in_X10_holds se_X10_holds ⟨_, rfl, rfl⟩ pr_X10_holds (by decide)
theorem r_L_holds_19 : IOK WB AD SR FW TB md_L_holds 19 (.astore_n 3, 0, 0, 0, []) := io_plain (by decide +kernel) rfl
theorem r_L_holds_20 : IOK WB AD SR FW TB md_L_holds 20 (.iconst 1, 0, 0, 0, []) := io_plain (by decide +kernel) rfl
theorem r_L_holds_21 : IOK WB AD SR FW TB md_L_holds 21 (.ireturn, 0, 0, 0, []) := io_plain (by decide +kernel) rfl
theorem r_L_holds_22 : IOK WB AD SR FW TB md_L_holds 22 (.astore_n 3, 0, 0, 0, []) := io_plain (by decide +kernel) rfl
theorem r_L_holds_23 : IOK WB AD SR FW TB md_L_holds 23 (.iconst 2, 0, 0, 0, []) := io_plain (by decide +kernel) rfl
theorem r_L_holds_24 : IOK WB AD SR FW TB md_L_holds 24 (.ireturn, 0, 0, 0, []) := io_plain (by decide +kernel) rfl
set_option maxRecDepth 100000 in
theorem ok_L_holds_0 : ∀ q ∈ tl_L_holds, IOK WB AD SR FW TB md_L_holds q.1 q.2 := List.forall_mem_cons.mpr ⟨r_L_holds_0, List.forall_mem_cons.mpr ⟨r_L_holds_1, List.forall_mem_cons.mpr ⟨r_L_holds_2, List.forall_mem_cons.mpr ⟨r_L_holds_3, List.forall_mem_cons.mpr ⟨r_L_holds_4, List.forall_mem_cons.mpr ⟨r_L_holds_19, List.forall_mem_cons.mpr ⟨r_L_holds_20, List.forall_mem_cons.mpr ⟨r_L_holds_21, List.forall_mem_cons.mpr ⟨r_L_holds_22, List.forall_mem_cons.mpr ⟨r_L_holds_23, List.forall_mem_cons.mpr ⟨r_L_holds_24, fun _ h => absurd h List.not_mem_nil⟩⟩⟩⟩⟩⟩⟩⟩⟩⟩⟩
set_option maxRecDepth 100000 in
theorem tq_L_holds_0 : tf_L_holds = tl_L_holds.map (fun q => (q.1, stepOf NPf md_L_holds q.2)) := rfl
theorem ro_L_holds : RowsOK (md_L_holds, tl_L_holds) tf_L_holds := ⟨tq_L_holds_0, ok_L_holds_0⟩
theorem r_L_both_0 : IOK WB AD SR FW TB md_L_both 0 (.aload_n 2, 0, 0, 0, []) := io_plain (by decide +kernel) rfl
theorem r_L_both_1 : IOK WB AD SR FW TB md_L_both 1 (.iconst 0, 0, 0, 0, []) := io_plain (by decide +kernel) rfl
theorem r_L_both_2 : IOK WB AD SR FW TB md_L_both 2 (.aload_n 0, 0, 0, 0, []) := io_plain (by decide +kernel) rfl
theorem r_L_both_3 : IOK WB AD SR FW TB md_L_both 3 (.iload_n 1, 0, 0, 0, []) := io_plain (by decide +kernel) rfl
theorem r_L_both_4 : IOK WB AD SR FW TB md_L_both 4 (.invokevirtual 101, 86, 11, 0, []) := io_virt (by decide +kernel) tb_X10_both (wb_6 162 rfl rfl) in_X10_both se_X10_both ⟨_, rfl, rfl⟩ pr_X10_both (by decide)
theorem r_L_both_12 : IOK WB AD SR FW TB md_L_both 12 (.astore_n 3, 0, 0, 0, []) := io_plain (by decide +kernel) rfl
theorem r_L_both_13 : IOK WB AD SR FW TB md_L_both 13 (.iconst 1, 0, 0, 0, []) := io_plain (by decide +kernel) rfl
theorem r_L_both_14 : IOK WB AD SR FW TB md_L_both 14 (.ireturn, 0, 0, 0, []) := io_plain (by decide +kernel) rfl
set_option maxRecDepth 100000 in
theorem ok_L_both_0 : ∀ q ∈ tl_L_both, IOK WB AD SR FW TB md_L_both q.1 q.2 := List.forall_mem_cons.mpr ⟨r_L_both_0, List.forall_mem_cons.mpr ⟨r_L_both_1, List.forall_mem_cons.mpr ⟨r_L_both_2, List.forall_mem_cons.mpr ⟨r_L_both_3, List.forall_mem_cons.mpr ⟨r_L_both_4, List.forall_mem_cons.mpr ⟨r_L_both_12, List.forall_mem_cons.mpr ⟨r_L_both_13, List.forall_mem_cons.mpr ⟨r_L_both_14, fun _ h => absurd h List.not_mem_nil⟩⟩⟩⟩⟩⟩⟩⟩
set_option maxRecDepth 100000 in
theorem tq_L_both_0 : tf_L_both = tl_L_both.map (fun q => (q.1, stepOf NPf md_L_both q.2)) := rfl
theorem ro_L_both : RowsOK (md_L_both, tl_L_both) tf_L_both := ⟨tq_L_both_0, ok_L_both_0⟩
theorem r_X10_joins_0 : IOK WB AD SR FW TB md_X10_joins 0 (.aload_n 0, 0, 0, 0, []) := io_plain (by decide +kernel) rfl
theorem r_X10_joins_1 : IOK WB AD SR FW TB md_X10_joins 1 (.getfield 21, 11, 1, 2, []) := io_get (by decide +kernel) fo_RX10_21
theorem r_X10_joins_4 : IOK WB AD SR FW TB md_X10_joins 4 (.invokevirtual 173, 44, 9, 0, []) := io_virt (by decide +kernel) tb_X8_startAnew (wb_3 128 rfl rfl) in_X8_startAnew se_X8_startAnew ⟨_, rfl, rfl⟩ pr_X8_startAnew (by decide)
theorem r_X10_joins_7 : IOK WB AD SR FW TB md_X10_joins 7 (.aload_n 0, 0, 0, 0, []) := io_plain (by decide +kernel) rfl
theorem r_X10_joins_8 : IOK WB AD SR FW TB md_X10_joins 8 (.getfield 74, 11, 7, 2, []) := io_get (by decide +kernel) fo_RX10_74
theorem r_X10_joins_11 : IOK WB AD SR FW TB md_X10_joins 11 (.invokevirtual 358, 64, 1, 0, []) := io_virt (by decide +kernel) tb_X0_bringUpToDate (wb_3 137 rfl rfl) in_X0_bringUpToDate se_X0_bringUpToDate ⟨_, rfl, rfl⟩ pr_X0_bringUpToDate (by decide)
theorem r_X10_joins_14 : IOK WB AD SR FW TB md_X10_joins 14 (.iload_n 1, 0, 0, 0, []) := io_plain (by decide +kernel) rfl
theorem r_X10_joins_15 : IOK WB AD SR FW TB md_X10_joins 15 (.ifCond .lt 14, 0, 0, 0, []) := io_plain (by decide +kernel) rfl
theorem r_X10_joins_18 : IOK WB AD SR FW TB md_X10_joins 18 (.iload_n 1, 0, 0, 0, []) := io_plain (by decide +kernel) rfl
theorem r_X10_joins_19 : IOK WB AD SR FW TB md_X10_joins 19 (.aload_n 0, 0, 0, 0, []) := io_plain (by decide +kernel) rfl
theorem r_X10_joins_20 : IOK WB AD SR FW TB md_X10_joins 20 (.getfield 74, 11, 7, 2, []) := io_get (by decide +kernel) fo_RX10_74
theorem r_X10_joins_23 : IOK WB AD SR FW TB md_X10_joins 23 (.getfield 361, 1, 4, 0, []) := io_get (by decide +kernel) fo_RX10_361
theorem r_X10_joins_26 : IOK WB AD SR FW TB md_X10_joins 26 (.if_icmp .lt 14, 0, 0, 0, []) := io_plain (by decide +kernel) rfl
set_option maxRecDepth 100000 in
theorem r_X10_joins_29 : IOK WB AD SR FW TB md_X10_joins 29 (.new 93, 101, 362, 97, [1]) := io_thx 1 rfl (thk_mk RX10 rfl 93 362 97 1 "there is no such pair" true (List.mem_of_getElem? (i := 7) rfl) (by decide) (by decide +kernel) (by decide +kernel) ⟨by decide +kernel, by decide +kernel, by decide +kernel⟩ (wb_5 29 rfl rfl) (wb_1 22 rfl rfl) at_RX10_97_1 rfl) (by decide +kernel)
theorem r_X10_joins_32 : IOK WB AD SR FW TB md_X10_joins 32 (.dup, 0, 0, 0, []) := io_plain (by decide +kernel) rfl
set_option maxRecDepth 100000 in
theorem ok_X10_joins_0 : ∀ q ∈ tl_X10_joins, IOK WB AD SR FW TB md_X10_joins q.1 q.2 := List.forall_mem_cons.mpr ⟨r_X10_joins_0, List.forall_mem_cons.mpr ⟨r_X10_joins_1, List.forall_mem_cons.mpr ⟨r_X10_joins_4, List.forall_mem_cons.mpr ⟨r_X10_joins_7, List.forall_mem_cons.mpr ⟨r_X10_joins_8, List.forall_mem_cons.mpr ⟨r_X10_joins_11, List.forall_mem_cons.mpr ⟨r_X10_joins_14, List.forall_mem_cons.mpr ⟨r_X10_joins_15, List.forall_mem_cons.mpr ⟨r_X10_joins_18, List.forall_mem_cons.mpr ⟨r_X10_joins_19, List.forall_mem_cons.mpr ⟨r_X10_joins_20, List.forall_mem_cons.mpr ⟨r_X10_joins_23, List.forall_mem_cons.mpr ⟨r_X10_joins_26, List.forall_mem_cons.mpr ⟨r_X10_joins_29, List.forall_mem_cons.mpr ⟨r_X10_joins_32, fun _ h => absurd h List.not_mem_nil⟩⟩⟩⟩⟩⟩⟩⟩⟩⟩⟩⟩⟩⟩⟩
set_option maxRecDepth 100000 in
theorem tq_X10_joins_0 : tf_X10_joins = tl_X10_joins.map (fun q => (q.1, stepOf NPf md_X10_joins q.2)) := rfl
theorem ro_X10_joins : RowsOK (md_X10_joins, tl_X10_joins) tf_X10_joins := ⟨tq_X10_joins_0, ok_X10_joins_0⟩
theorem r_X17_idle_0 : IOK WB AD SR FW TB md_X17_idle 0 (.aload_n 0, 0, 0, 0, []) := io_plain (by decide +kernel) rfl
theorem r_X17_idle_1 : IOK WB AD SR FW TB md_X17_idle 1 (.aload_n 0, 0, 0, 0, []) := io_plain (by decide +kernel) rfl
theorem r_X17_idle_2 : IOK WB AD SR FW TB md_X17_idle 2 (.getfield 60, 18, 17, 2, []) := io_get (by decide +kernel) fo_RX17_60
theorem r_X17_idle_5 : IOK WB AD SR FW TB md_X17_idle 5 (.invokeinterface 271 1, 30, 0, 0, []) := io_face (by decide +kernel) tb_Jx4a65c_size_8abf5 (List.mem_of_getElem? (i := 0) rfl) (wb_8 32 rfl rfl) in_Jx4a65c_size_8abf5 (wb_8 35 rfl rfl) rfl rfl rfl pr_Jx4a65c_size_8abf5 (by decide)
theorem r_X17_idle_10 : IOK WB AD SR FW TB md_X17_idle 10 (.bipush 8, 0, 0, 0, []) := io_plain (by decide +kernel) rfl
theorem r_X17_idle_12 : IOK WB AD SR FW TB md_X17_idle 12 (.if_icmp .ne 7, 0, 0, 0, []) := io_plain (by decide +kernel) rfl
theorem r_X17_idle_19 : IOK WB AD SR FW TB md_X17_idle 19 (.iconst 0, 0, 0, 0, []) := io_plain (by decide +kernel) rfl
theorem r_X17_idle_20 : IOK WB AD SR FW TB md_X17_idle 20 (.putfield 114, 18, 0, 0, []) := io_put (by decide +kernel) fo_RX17_114 po_RX17_0_18_0_0
theorem r_X17_idle_23 : IOK WB AD SR FW TB md_X17_idle 23 (.aload_n 0, 0, 0, 0, []) := io_plain (by decide +kernel) rfl
theorem r_X17_idle_24 : IOK WB AD SR FW TB md_X17_idle 24 (.getfield 114, 18, 0, 0, []) := io_get (by decide +kernel) fo_RX17_114
theorem r_X17_idle_27 : IOK WB AD SR FW TB md_X17_idle 27 (.ifCond .le 7, 0, 0, 0, []) := io_plain (by decide +kernel) rfl
theorem r_X17_idle_34 : IOK WB AD SR FW TB md_X17_idle 34 (.aload_n 0, 0, 0, 0, []) := io_plain (by decide +kernel) rfl
theorem r_X17_idle_35 : IOK WB AD SR FW TB md_X17_idle 35 (.new 393, 15, 0, 0, [0, 0, 2, 2, 2, 0]) := io_new (by decide +kernel) rfl no_RX17_393
theorem r_X17_idle_38 : IOK WB AD SR FW TB md_X17_idle 38 (.dup, 0, 0, 0, []) := io_plain (by decide +kernel) rfl
theorem r_X17_idle_39 : IOK WB AD SR FW TB md_X17_idle 39 (.iconst 1, 0, 0, 0, []) := io_plain (by decide +kernel) rfl
theorem r_X17_idle_40 : IOK WB AD SR FW TB md_X17_idle 40 (.iconst 0, 0, 0, 0, []) := io_plain (by decide +kernel) rfl
theorem r_X17_idle_41 : IOK WB AD SR FW TB md_X17_idle 41 (.aconst_null, 0, 0, 0, []) := io_plain (by decide +kernel) rfl
theorem r_X17_idle_42 : IOK WB AD SR FW TB md_X17_idle 42 (.aconst_null, 0, 0, 0, []) := io_plain (by decide +kernel) rfl
theorem r_X17_idle_43 : IOK WB AD SR FW TB md_X17_idle 43 (.aconst_null, 0, 0, 0, []) := io_plain (by decide +kernel) rfl
theorem r_X17_idle_44 : IOK WB AD SR FW TB md_X17_idle 44 (.invokespecial 420, 63, 15, 0, []) := io_spec (by decide +kernel) tb_X14_init (wb_9 140 rfl rfl) in_X14_init rfl rfl rfl pr_X14_init (by decide)
theorem r_X17_idle_47 : IOK WB AD SR FW TB md_X17_idle 47 (.invokevirtual 423, 125, 18, 0, []) := io_virt (by decide +kernel) tb_X17_adds (wb_9 169 rfl rfl) in_X17_adds se_X17_adds ⟨_, rfl, rfl⟩ pr_X17_adds (by decide)
theorem r_X17_idle_50 : IOK WB AD SR FW TB md_X17_idle 50 (.ireturn, 0, 0, 0, []) := io_plain (by decide +kernel) rfl
set_option maxRecDepth 100000 in
theorem ok_X17_idle_0 : ∀ q ∈ tl_X17_idle, IOK WB AD SR FW TB md_X17_idle q.1 q.2 := List.forall_mem_cons.mpr ⟨r_X17_idle_0, List.forall_mem_cons.mpr ⟨r_X17_idle_1, List.forall_mem_cons.mpr ⟨r_X17_idle_2, List.forall_mem_cons.mpr ⟨r_X17_idle_5, List.forall_mem_cons.mpr ⟨r_X17_idle_10, List.forall_mem_cons.mpr ⟨r_X17_idle_12, List.forall_mem_cons.mpr ⟨r_X17_idle_19, List.forall_mem_cons.mpr ⟨r_X17_idle_20, List.forall_mem_cons.mpr ⟨r_X17_idle_23, List.forall_mem_cons.mpr ⟨r_X17_idle_24, List.forall_mem_cons.mpr ⟨r_X17_idle_27, List.forall_mem_cons.mpr ⟨r_X17_idle_34, List.forall_mem_cons.mpr ⟨r_X17_idle_35, List.forall_mem_cons.mpr ⟨r_X17_idle_38, List.forall_mem_cons.mpr ⟨r_X17_idle_39, List.forall_mem_cons.mpr ⟨r_X17_idle_40, List.forall_mem_cons.mpr ⟨r_X17_idle_41, List.forall_mem_cons.mpr ⟨r_X17_idle_42, List.forall_mem_cons.mpr ⟨r_X17_idle_43, List.forall_mem_cons.mpr ⟨r_X17_idle_44, List.forall_mem_cons.mpr ⟨r_X17_idle_47, List.forall_mem_cons.mpr ⟨r_X17_idle_50, fun _ h => absurd h List.not_mem_nil⟩⟩⟩⟩⟩⟩⟩⟩⟩⟩⟩⟩⟩⟩⟩⟩⟩⟩⟩⟩⟩⟩
set_option maxRecDepth 100000 in
theorem tq_X17_idle_0 : tf_X17_idle = tl_X17_idle.map (fun q => (q.1, stepOf NPf md_X17_idle q.2)) := rfl
theorem ro_X17_idle : RowsOK (md_X17_idle, tl_X17_idle) tf_X17_idle := ⟨tq_X17_idle_0, ok_X17_idle_0⟩
theorem r_X5_addOne_0 : IOK WB AD SR FW TB md_X5_addOne 0 (.aload_n 0, 0, 0, 0, []) := io_plain (by decide +kernel) rfl
theorem r_X5_addOne_1 : IOK WB AD SR FW TB md_X5_addOne 1 (.iload_n 1, 0, 0, 0, []) := io_plain (by decide +kernel) rfl
theorem r_X5_addOne_2 : IOK WB AD SR FW TB md_X5_addOne 2 (.iconst 1, 0, 0, 0, []) := io_plain (by decide +kernel) rfl
theorem r_X5_addOne_3 : IOK WB AD SR FW TB md_X5_addOne 3 (.invokevirtual 32, 80, 6, 0, []) := io_virt (by decide +kernel) tb_X5_addPart (wb_6 133 rfl rfl) in_X5_addPart se_X5_addPart ⟨_, rfl, rfl⟩ pr_X5_addPart (by decide)
theorem r_X5_addOne_6 : IOK WB AD SR FW TB md_X5_addOne 6 (.aload_n 0, 0, 0, 0, []) := io_plain (by decide +kernel) rfl
theorem r_X5_addOne_7 : IOK WB AD SR FW TB md_X5_addOne 7 (.getfield 15, 6, 5, 2, []) := io_get (by decide +kernel) fo_RX5_15
theorem r_X5_addOne_10 : IOK WB AD SR FW TB md_X5_addOne 10 (.aload_n 0, 0, 0, 0, []) := io_plain (by decide +kernel) rfl
theorem r_X5_addOne_11 : IOK WB AD SR FW TB md_X5_addOne 11 (.getfield 36, 6, 3, 0, []) := io_get (by decide +kernel) fo_RX5_36
theorem r_X5_addOne_14 : IOK WB AD SR FW TB md_X5_addOne 14 (.iconst 1, 0, 0, 0, []) := io_plain (by decide +kernel) rfl
theorem r_X5_addOne_15 : IOK WB AD SR FW TB md_X5_addOne 15 (.isub, 0, 0, 0, []) := io_plain (by decide +kernel) rfl
theorem r_X5_addOne_16 : IOK WB AD SR FW TB md_X5_addOne 16 (.iload_n 2, 0, 0, 0, []) := io_plain (by decide +kernel) rfl
theorem r_X5_addOne_17 : IOK WB AD SR FW TB md_X5_addOne 17 (.iastore, 0, 0, 0, []) := io_plain (by decide +kernel) rfl
theorem r_X5_addOne_18 : IOK WB AD SR FW TB md_X5_addOne 18 (.aload_n 0, 0, 0, 0, []) := io_plain (by decide +kernel) rfl
theorem r_X5_addOne_19 : IOK WB AD SR FW TB md_X5_addOne 19 (.dup, 0, 0, 0, []) := io_plain (by decide +kernel) rfl
theorem r_X5_addOne_20 : IOK WB AD SR FW TB md_X5_addOne 20 (.getfield 40, 6, 2, 0, []) := io_get (by decide +kernel) fo_RX5_40
theorem r_X5_addOne_23 : IOK WB AD SR FW TB md_X5_addOne 23 (.iconst 1, 0, 0, 0, []) := io_plain (by decide +kernel) rfl
theorem r_X5_addOne_24 : IOK WB AD SR FW TB md_X5_addOne 24 (.iadd, 0, 0, 0, []) := io_plain (by decide +kernel) rfl
theorem r_X5_addOne_25 : IOK WB AD SR FW TB md_X5_addOne 25 (.putfield 40, 6, 2, 0, []) := io_put (by decide +kernel) fo_RX5_40 po_RX5_0_6_2_0
theorem r_X5_addOne_28 : IOK WB AD SR FW TB md_X5_addOne 28 (.aload_n 0, 0, 0, 0, []) := io_plain (by decide +kernel) rfl
theorem r_X5_addOne_29 : IOK WB AD SR FW TB md_X5_addOne 29 (.getfield 40, 6, 2, 0, []) := io_get (by decide +kernel) fo_RX5_40
theorem r_X5_addOne_32 : IOK WB AD SR FW TB md_X5_addOne 32 (.ireturn, 0, 0, 0, []) := io_plain (by decide +kernel) rfl
set_option maxRecDepth 100000 in
theorem ok_X5_addOne_0 : ∀ q ∈ tl_X5_addOne, IOK WB AD SR FW TB md_X5_addOne q.1 q.2 := List.forall_mem_cons.mpr ⟨r_X5_addOne_0, List.forall_mem_cons.mpr ⟨r_X5_addOne_1, List.forall_mem_cons.mpr ⟨r_X5_addOne_2, List.forall_mem_cons.mpr ⟨r_X5_addOne_3, List.forall_mem_cons.mpr ⟨r_X5_addOne_6, List.forall_mem_cons.mpr ⟨r_X5_addOne_7, List.forall_mem_cons.mpr ⟨r_X5_addOne_10, List.forall_mem_cons.mpr ⟨r_X5_addOne_11, List.forall_mem_cons.mpr ⟨r_X5_addOne_14, List.forall_mem_cons.mpr ⟨r_X5_addOne_15, List.forall_mem_cons.mpr ⟨r_X5_addOne_16, List.forall_mem_cons.mpr ⟨r_X5_addOne_17, List.forall_mem_cons.mpr ⟨r_X5_addOne_18, List.forall_mem_cons.mpr ⟨r_X5_addOne_19, List.forall_mem_cons.mpr ⟨r_X5_addOne_20, List.forall_mem_cons.mpr ⟨r_X5_addOne_23, List.forall_mem_cons.mpr ⟨r_X5_addOne_24, List.forall_mem_cons.mpr ⟨r_X5_addOne_25, List.forall_mem_cons.mpr ⟨r_X5_addOne_28, List.forall_mem_cons.mpr ⟨r_X5_addOne_29, List.forall_mem_cons.mpr ⟨r_X5_addOne_32, fun _ h => absurd h List.not_mem_nil⟩⟩⟩⟩⟩⟩⟩⟩⟩⟩⟩⟩⟩⟩⟩⟩⟩⟩⟩⟩⟩
set_option maxRecDepth 100000 in
theorem tq_X5_addOne_0 : tf_X5_addOne = tl_X5_addOne.map (fun q => (q.1, stepOf NPf md_X5_addOne q.2)) := rfl
theorem ro_X5_addOne : RowsOK (md_X5_addOne, tl_X5_addOne) tf_X5_addOne := ⟨tq_X5_addOne_0, ok_X5_addOne_0⟩
theorem r_X17_hasBoth_0 : IOK WB AD SR FW TB md_X17_hasBoth 0 (.aload_n 0, 0, 0, 0, []) := io_plain (by decide +kernel) rfl
theorem r_X17_hasBoth_1 : IOK WB AD SR FW TB md_X17_hasBoth 1 (.getfield 44, 18, 13, 2, []) := io_get (by decide +kernel) fo_RX17_44
theorem r_X17_hasBoth_4 : IOK WB AD SR FW TB md_X17_hasBoth 4 (.invokeinterface 271 1, 30, 0, 0, []) := io_face (by decide +kernel) tb_Jx4a65c_size_8abf5 (List.mem_of_getElem? (i := 0) rfl) (wb_8 32 rfl rfl) in_Jx4a65c_size_8abf5 (wb_8 35 rfl rfl) rfl rfl rfl pr_Jx4a65c_size_8abf5 (by decide)
theorem r_X17_hasBoth_9 : IOK WB AD SR FW TB md_X17_hasBoth 9 (.iconst 2, 0, 0, 0, []) := io_plain (by decide +kernel) rfl
theorem r_X17_hasBoth_10 : IOK WB AD SR FW TB md_X17_hasBoth 10 (.if_icmp .lt 17, 0, 0, 0, []) := io_plain (by decide +kernel) rfl
theorem r_X17_hasBoth_27 : IOK WB AD SR FW TB md_X17_hasBoth 27 (.iconst 0, 0, 0, 0, []) := io_plain (by decide +kernel) rfl
theorem r_X17_hasBoth_28 : IOK WB AD SR FW TB md_X17_hasBoth 28 (.ireturn, 0, 0, 0, []) := io_plain (by decide +kernel) rfl
set_option maxRecDepth 100000 in
theorem ok_X17_hasBoth_0 : ∀ q ∈ tl_X17_hasBoth, IOK WB AD SR FW TB md_X17_hasBoth q.1 q.2 := List.forall_mem_cons.mpr ⟨r_X17_hasBoth_0, List.forall_mem_cons.mpr ⟨r_X17_hasBoth_1, List.forall_mem_cons.mpr ⟨r_X17_hasBoth_4, List.forall_mem_cons.mpr ⟨r_X17_hasBoth_9, List.forall_mem_cons.mpr ⟨r_X17_hasBoth_10, List.forall_mem_cons.mpr ⟨r_X17_hasBoth_27, List.forall_mem_cons.mpr ⟨r_X17_hasBoth_28, fun _ h => absurd h List.not_mem_nil⟩⟩⟩⟩⟩⟩⟩
set_option maxRecDepth 100000 in
theorem tq_X17_hasBoth_0 : tf_X17_hasBoth = tl_X17_hasBoth.map (fun q => (q.1, stepOf NPf md_X17_hasBoth q.2)) := rfl
theorem ro_X17_hasBoth : RowsOK (md_X17_hasBoth, tl_X17_hasBoth) tf_X17_hasBoth := ⟨tq_X17_hasBoth_0, ok_X17_hasBoth_0⟩
theorem r_Jx4a65c_clear_da8c8_0 : IOK WB AD SR FW TB md_Jx4a65c_clear_da8c8 0 (.aload_n 0, 0, 0, 0, []) := io_plain (by decide +kernel) rfl
theorem r_Jx4a65c_clear_da8c8_1 : IOK WB AD SR FW TB md_Jx4a65c_clear_da8c8 1 (.dup, 0, 0, 0, []) := io_plain (by decide +kernel) rfl
theorem r_Jx4a65c_clear_da8c8_2 : IOK WB AD SR FW TB md_Jx4a65c_clear_da8c8 2 (.getfield 63, 0, 0, 0, []) := io_get (by decide +kernel) fo_RJx4a65c_63
theorem r_Jx4a65c_clear_da8c8_5 : IOK WB AD SR FW TB md_Jx4a65c_clear_da8c8 5 (.iconst 1, 0, 0, 0, []) := io_plain (by decide +kernel) rfl
theorem r_Jx4a65c_clear_da8c8_6 : IOK WB AD SR FW TB md_Jx4a65c_clear_da8c8 6 (.iadd, 0, 0, 0, []) := io_plain (by decide +kernel) rfl
theorem r_Jx4a65c_clear_da8c8_7 : IOK WB AD SR FW TB md_Jx4a65c_clear_da8c8 7 (.putfield 63, 0, 0, 0, []) := io_put (by decide +kernel) fo_RJx4a65c_63 po_RJx4a65c_0_0_0_0
theorem r_Jx4a65c_clear_da8c8_10 : IOK WB AD SR FW TB md_Jx4a65c_clear_da8c8 10 (.aload_n 0, 0, 0, 0, []) := io_plain (by decide +kernel) rfl
theorem r_Jx4a65c_clear_da8c8_11 : IOK WB AD SR FW TB md_Jx4a65c_clear_da8c8 11 (.getfield 9, 0, 1, 2, []) := io_get (by decide +kernel) fo_RJx4a65c_9
theorem r_Jx4a65c_clear_da8c8_14 : IOK WB AD SR FW TB md_Jx4a65c_clear_da8c8 14 (.astore_n 1, 0, 0, 0, []) := io_plain (by decide +kernel) rfl
theorem r_Jx4a65c_clear_da8c8_15 : IOK WB AD SR FW TB md_Jx4a65c_clear_da8c8 15 (.aload_n 0, 0, 0, 0, []) := io_plain (by decide +kernel) rfl
theorem r_Jx4a65c_clear_da8c8_16 : IOK WB AD SR FW TB md_Jx4a65c_clear_da8c8 16 (.getfield 48, 0, 2, 0, []) := io_get (by decide +kernel) fo_RJx4a65c_48
theorem r_Jx4a65c_clear_da8c8_19 : IOK WB AD SR FW TB md_Jx4a65c_clear_da8c8 19 (.istore_n 2, 0, 0, 0, []) := io_plain (by decide +kernel) rfl
theorem r_Jx4a65c_clear_da8c8_20 : IOK WB AD SR FW TB md_Jx4a65c_clear_da8c8 20 (.aload_n 0, 0, 0, 0, []) := io_plain (by decide +kernel) rfl
theorem r_Jx4a65c_clear_da8c8_21 : IOK WB AD SR FW TB md_Jx4a65c_clear_da8c8 21 (.iconst 0, 0, 0, 0, []) := io_plain (by decide +kernel) rfl
theorem r_Jx4a65c_clear_da8c8_22 : IOK WB AD SR FW TB md_Jx4a65c_clear_da8c8 22 (.dup_x1, 0, 0, 0, []) := io_plain (by decide +kernel) rfl
theorem r_Jx4a65c_clear_da8c8_23 : IOK WB AD SR FW TB md_Jx4a65c_clear_da8c8 23 (.putfield 48, 0, 2, 0, []) := io_put (by decide +kernel) fo_RJx4a65c_48 po_RJx4a65c_0_0_2_0
theorem r_Jx4a65c_clear_da8c8_26 : IOK WB AD SR FW TB md_Jx4a65c_clear_da8c8 26 (.istore_n 3, 0, 0, 0, []) := io_plain (by decide +kernel) rfl
theorem r_Jx4a65c_clear_da8c8_27 : IOK WB AD SR FW TB md_Jx4a65c_clear_da8c8 27 (.iload_n 3, 0, 0, 0, []) := io_plain (by decide +kernel) rfl
theorem r_Jx4a65c_clear_da8c8_28 : IOK WB AD SR FW TB md_Jx4a65c_clear_da8c8 28 (.iload_n 2, 0, 0, 0, []) := io_plain (by decide +kernel) rfl
theorem r_Jx4a65c_clear_da8c8_29 : IOK WB AD SR FW TB md_Jx4a65c_clear_da8c8 29 (.if_icmp .ge 13, 0, 0, 0, []) := io_plain (by decide +kernel) rfl
theorem r_Jx4a65c_clear_da8c8_42 : IOK WB AD SR FW TB md_Jx4a65c_clear_da8c8 42 (.return_, 0, 0, 0, []) := io_void (by decide +kernel) rfl
set_option maxRecDepth 100000 in
theorem ok_Jx4a65c_clear_da8c8_0 : ∀ q ∈ tl_Jx4a65c_clear_da8c8, IOK WB AD SR FW TB md_Jx4a65c_clear_da8c8 q.1 q.2 := List.forall_mem_cons.mpr ⟨r_Jx4a65c_clear_da8c8_0, List.forall_mem_cons.mpr ⟨r_Jx4a65c_clear_da8c8_1, List.forall_mem_cons.mpr ⟨r_Jx4a65c_clear_da8c8_2, List.forall_mem_cons.mpr ⟨r_Jx4a65c_clear_da8c8_5, List.forall_mem_cons.mpr ⟨r_Jx4a65c_clear_da8c8_6, List.forall_mem_cons.mpr ⟨r_Jx4a65c_clear_da8c8_7, List.forall_mem_cons.mpr ⟨r_Jx4a65c_clear_da8c8_10, List.forall_mem_cons.mpr ⟨r_Jx4a65c_clear_da8c8_11, List.forall_mem_cons.mpr ⟨r_Jx4a65c_clear_da8c8_14, List.forall_mem_cons.mpr ⟨r_Jx4a65c_clear_da8c8_15, List.forall_mem_cons.mpr ⟨r_Jx4a65c_clear_da8c8_16, List.forall_mem_cons.mpr ⟨r_Jx4a65c_clear_da8c8_19, List.forall_mem_cons.mpr ⟨r_Jx4a65c_clear_da8c8_20, List.forall_mem_cons.mpr ⟨r_Jx4a65c_clear_da8c8_21, List.forall_mem_cons.mpr ⟨r_Jx4a65c_clear_da8c8_22, List.forall_mem_cons.mpr ⟨r_Jx4a65c_clear_da8c8_23, List.forall_mem_cons.mpr ⟨r_Jx4a65c_clear_da8c8_26, List.forall_mem_cons.mpr ⟨r_Jx4a65c_clear_da8c8_27, List.forall_mem_cons.mpr ⟨r_Jx4a65c_clear_da8c8_28, List.forall_mem_cons.mpr ⟨r_Jx4a65c_clear_da8c8_29, List.forall_mem_cons.mpr ⟨r_Jx4a65c_clear_da8c8_42, fun _ h => absurd h List.not_mem_nil⟩⟩⟩⟩⟩⟩⟩⟩⟩⟩⟩⟩⟩⟩⟩⟩⟩⟩⟩⟩⟩
set_option maxRecDepth 100000 in
theorem tq_Jx4a65c_clear_da8c8_0 : tf_Jx4a65c_clear_da8c8 = tl_Jx4a65c_clear_da8c8.map (fun q => (q.1, stepOf NPf md_Jx4a65c_clear_da8c8 q.2)) := rfl
theorem ro_Jx4a65c_clear_da8c8 : RowsOK (md_Jx4a65c_clear_da8c8, tl_Jx4a65c_clear_da8c8) tf_Jx4a65c_clear_da8c8 := ⟨tq_Jx4a65c_clear_da8c8_0, ok_Jx4a65c_clear_da8c8_0⟩
theorem r_X8_giveNothing_0 : IOK WB AD SR FW TB md_X8_giveNothing 0 (.aload_n 0, 0, 0, 0, []) := io_plain (by decide +kernel) rfl
theorem r_X8_giveNothing_1 : IOK WB AD SR FW TB md_X8_giveNothing 1 (.getfield 28, 9, 7, 2, []) := io_get (by decide +kernel) fo_RX8_28
theorem r_X8_giveNothing_4 : IOK WB AD SR FW TB md_X8_giveNothing 4 (.iconst (-1), 0, 0, 0, []) := io_plain (by decide +kernel) rfl
theorem r_X8_giveNothing_5 : IOK WB AD SR FW TB md_X8_giveNothing 5 (.invokestatic 51, 2, 0, 0, []) := io_stat (by decide +kernel) tb_J7_fill_53178 (wb_3 136 rfl rfl) st_J7_fill_53178 pr_J7_fill_53178
theorem r_X8_giveNothing_8 : IOK WB AD SR FW TB md_X8_giveNothing 8 (.return_, 0, 0, 0, []) := io_void (by decide +kernel) rfl
set_option maxRecDepth 100000 in
theorem ok_X8_giveNothing_0 : ∀ q ∈ tl_X8_giveNothing, IOK WB AD SR FW TB md_X8_giveNothing q.1 q.2 := List.forall_mem_cons.mpr ⟨r_X8_giveNothing_0, List.forall_mem_cons.mpr ⟨r_X8_giveNothing_1, List.forall_mem_cons.mpr ⟨r_X8_giveNothing_4, List.forall_mem_cons.mpr ⟨r_X8_giveNothing_5, List.forall_mem_cons.mpr ⟨r_X8_giveNothing_8, fun _ h => absurd h List.not_mem_nil⟩⟩⟩⟩⟩
set_option maxRecDepth 100000 in
theorem tq_X8_giveNothing_0 : tf_X8_giveNothing = tl_X8_giveNothing.map (fun q => (q.1, stepOf NPf md_X8_giveNothing q.2)) := rfl
theorem ro_X8_giveNothing : RowsOK (md_X8_giveNothing, tl_X8_giveNothing) tf_X8_giveNothing := ⟨tq_X8_giveNothing_0, ok_X8_giveNothing_0⟩
theorem r_L_weight_0 : IOK WB AD SR FW TB md_L_weight 0 (.aload 4, 0, 0, 0, []) := io_plain (by decide +kernel) rfl
theorem r_L_weight_2 : IOK WB AD SR FW TB md_L_weight 2 (.iconst 0, 0, 0, 0, []) := io_plain (by decide +kernel) rfl
theorem r_L_weight_3 : IOK WB AD SR FW TB md_L_weight 3 (.aload_n 0, 0, 0, 0, []) := io_plain (by decide +kernel) rfl
theorem r_L_weight_4 : IOK WB AD SR FW TB md_L_weight 4 (.iload_n 1, 0, 0, 0, []) := io_plain (by decide +kernel) rfl
theorem r_L_weight_5 : IOK WB AD SR FW TB md_L_weight 5 (.iload_n 2, 0, 0, 0, []) := io_plain (by decide +kernel) rfl
theorem r_L_weight_6 : IOK WB AD SR FW TB md_L_weight 6 (.iload_n 3, 0, 0, 0, []) := io_plain (by decide +kernel) rfl
theorem r_L_weight_7 : IOK WB AD SR FW TB md_L_weight 7 (.invokevirtual 114, 111, 11, 0, []) := io_virt (by decide +kernel) tb_X10_weight (wb_7 2 rfl rfl) in_X10_weight se_X10_weight ⟨_, rfl, rfl⟩ pr_X10_weight (by decide)
theorem r_L_weight_15 : IOK WB AD SR FW TB md_L_weight 15 (.astore 5, 0, 0, 0, []) := io_plain (by decide +kernel) rfl
theorem r_L_weight_17 : IOK WB AD SR FW TB md_L_weight 17 (.iconst 1, 0, 0, 0, []) := io_plain (by decide +kernel) rfl
theorem r_L_weight_18 : IOK WB AD SR FW TB md_L_weight 18 (.ireturn, 0, 0, 0, []) := io_plain (by decide +kernel) rfl
set_option maxRecDepth 100000 in
theorem ok_L_weight_0 : ∀ q ∈ tl_L_weight, IOK WB AD SR FW TB md_L_weight q.1 q.2 := List.forall_mem_cons.mpr ⟨r_L_weight_0, List.forall_mem_cons.mpr ⟨r_L_weight_2, List.forall_mem_cons.mpr ⟨r_L_weight_3, List.forall_mem_cons.mpr ⟨r_L_weight_4, List.forall_mem_cons.mpr ⟨r_L_weight_5, List.forall_mem_cons.mpr ⟨r_L_weight_6, List.forall_mem_cons.mpr ⟨r_L_weight_7, List.forall_mem_cons.mpr ⟨r_L_weight_15, List.forall_mem_cons.mpr ⟨r_L_weight_17, List.forall_mem_cons.mpr ⟨r_L_weight_18, fun _ h => absurd h List.not_mem_nil⟩⟩⟩⟩⟩⟩⟩⟩⟩⟩
set_option maxRecDepth 100000 in
theorem tq_L_weight_0 : tf_L_weight = tl_L_weight.map (fun q => (q.1, stepOf NPf md_L_weight q.2)) := rfl
theorem ro_L_weight : RowsOK (md_L_weight, tl_L_weight) tf_L_weight := ⟨tq_L_weight_0, ok_L_weight_0⟩
theorem r_X5_addPart_0 : IOK WB AD SR FW TB md_X5_addPart 0 (.aload_n 0, 0, 0, 0, []) := io_plain (by decide +kernel) rfl
theorem r_X5_addPart_1 : IOK WB AD SR FW TB md_X5_addPart 1 (.getfield 11, 6, 4, 2, []) := io_get (by decide +kernel) fo_RX5_11
theorem r_X5_addPart_4 : IOK WB AD SR FW TB md_X5_addPart 4 (.aload_n 0, 0, 0, 0, []) := io_plain (by decide +kernel) rfl
theorem r_X5_addPart_5 : IOK WB AD SR FW TB md_X5_addPart 5 (.getfield 36, 6, 3, 0, []) := io_get (by decide +kernel) fo_RX5_36
theorem r_X5_addPart_8 : IOK WB AD SR FW TB md_X5_addPart 8 (.iload_n 1, 0, 0, 0, []) := io_plain (by decide +kernel) rfl
theorem r_X5_addPart_9 : IOK WB AD SR FW TB md_X5_addPart 9 (.iastore, 0, 0, 0, []) := io_plain (by decide +kernel) rfl
theorem r_X5_addPart_10 : IOK WB AD SR FW TB md_X5_addPart 10 (.aload_n 0, 0, 0, 0, []) := io_plain (by decide +kernel) rfl
theorem r_X5_addPart_11 : IOK WB AD SR FW TB md_X5_addPart 11 (.getfield 18, 6, 6, 2, []) := io_get (by decide +kernel) fo_RX5_18
theorem r_X5_addPart_14 : IOK WB AD SR FW TB md_X5_addPart 14 (.aload_n 0, 0, 0, 0, []) := io_plain (by decide +kernel) rfl
theorem r_X5_addPart_15 : IOK WB AD SR FW TB md_X5_addPart 15 (.getfield 36, 6, 3, 0, []) := io_get (by decide +kernel) fo_RX5_36
theorem r_X5_addPart_18 : IOK WB AD SR FW TB md_X5_addPart 18 (.iload_n 2, 0, 0, 0, []) := io_plain (by decide +kernel) rfl
theorem r_X5_addPart_19 : IOK WB AD SR FW TB md_X5_addPart 19 (.iastore, 0, 0, 0, []) := io_plain (by decide +kernel) rfl
theorem r_X5_addPart_20 : IOK WB AD SR FW TB md_X5_addPart 20 (.aload_n 0, 0, 0, 0, []) := io_plain (by decide +kernel) rfl
theorem r_X5_addPart_21 : IOK WB AD SR FW TB md_X5_addPart 21 (.dup, 0, 0, 0, []) := io_plain (by decide +kernel) rfl
theorem r_X5_addPart_22 : IOK WB AD SR FW TB md_X5_addPart 22 (.getfield 36, 6, 3, 0, []) := io_get (by decide +kernel) fo_RX5_36
theorem r_X5_addPart_25 : IOK WB AD SR FW TB md_X5_addPart 25 (.iconst 1, 0, 0, 0, []) := io_plain (by decide +kernel) rfl
theorem r_X5_addPart_26 : IOK WB AD SR FW TB md_X5_addPart 26 (.iadd, 0, 0, 0, []) := io_plain (by decide +kernel) rfl
theorem r_X5_addPart_27 : IOK WB AD SR FW TB md_X5_addPart 27 (.putfield 36, 6, 3, 0, []) := io_put (by decide +kernel) fo_RX5_36 po_RX5_0_6_3_0
theorem r_X5_addPart_30 : IOK WB AD SR FW TB md_X5_addPart 30 (.return_, 0, 0, 0, []) := io_void (by decide +kernel) rfl
set_option maxRecDepth 100000 in
theorem ok_X5_addPart_0 : ∀ q ∈ tl_X5_addPart, IOK WB AD SR FW TB md_X5_addPart q.1 q.2 := List.forall_mem_cons.mpr ⟨r_X5_addPart_0, List.forall_mem_cons.mpr ⟨r_X5_addPart_1, List.forall_mem_cons.mpr ⟨r_X5_addPart_4, List.forall_mem_cons.mpr ⟨r_X5_addPart_5, List.forall_mem_cons.mpr ⟨r_X5_addPart_8, List.forall_mem_cons.mpr ⟨r_X5_addPart_9, List.forall_mem_cons.mpr ⟨r_X5_addPart_10, List.forall_mem_cons.mpr ⟨r_X5_addPart_11, List.forall_mem_cons.mpr ⟨r_X5_addPart_14, List.forall_mem_cons.mpr ⟨r_X5_addPart_15, List.forall_mem_cons.mpr ⟨r_X5_addPart_18, List.forall_mem_cons.mpr ⟨r_X5_addPart_19, List.forall_mem_cons.mpr ⟨r_X5_addPart_20, List.forall_mem_cons.mpr ⟨r_X5_addPart_21, List.forall_mem_cons.mpr ⟨r_X5_addPart_22, List.forall_mem_cons.mpr ⟨r_X5_addPart_25, List.forall_mem_cons.mpr ⟨r_X5_addPart_26, List.forall_mem_cons.mpr ⟨r_X5_addPart_27, List.forall_mem_cons.mpr ⟨r_X5_addPart_30, fun _ h => absurd h List.not_mem_nil⟩⟩⟩⟩⟩⟩⟩⟩⟩⟩⟩⟩⟩⟩⟩⟩⟩⟩⟩
set_option maxRecDepth 100000 in
theorem tq_X5_addPart_0 : tf_X5_addPart = tl_X5_addPart.map (fun q => (q.1, stepOf NPf md_X5_addPart q.2)) := rfl
theorem ro_X5_addPart : RowsOK (md_X5_addPart, tl_X5_addPart) tf_X5_addPart := ⟨tq_X5_addPart_0, ok_X5_addPart_0⟩
theorem r_X17_fitting_0 : IOK WB AD SR FW TB md_X17_fitting 0 (.aload_n 0, 0, 0, 0, []) := io_plain (by decide +kernel) rfl
theorem r_X17_fitting_1 : IOK WB AD SR FW TB md_X17_fitting 1 (.aload_n 0, 0, 0, 0, []) := io_plain (by decide +kernel) rfl
theorem r_X17_fitting_2 : IOK WB AD SR FW TB md_X17_fitting 2 (.getfield 44, 18, 13, 2, []) := io_get (by decide +kernel) fo_RX17_44
theorem r_X17_fitting_5 : IOK WB AD SR FW TB md_X17_fitting 5 (.invokeinterface 351 1, 43, 0, 0, []) := io_face (by decide +kernel) tb_Jx4a65c_isEmpty_aae02 (List.mem_of_getElem? (i := 2) rfl) (wb_8 9 rfl rfl) in_Jx4a65c_isEmpty_aae02 (wb_8 13 rfl rfl) rfl rfl rfl pr_Jx4a65c_isEmpty_aae02 (by decide)
theorem r_X17_fitting_10 : IOK WB AD SR FW TB md_X17_fitting 10 (.ifCond .eq 7, 0, 0, 0, []) := io_plain (by decide +kernel) rfl
theorem r_X17_fitting_13 : IOK WB AD SR FW TB md_X17_fitting 13 (.iconst 1, 0, 0, 0, []) := io_plain (by decide +kernel) rfl
theorem r_X17_fitting_14 : IOK WB AD SR FW TB md_X17_fitting 14 (.goto 4, 0, 0, 0, []) := io_plain (by decide +kernel) rfl
theorem r_X17_fitting_18 : IOK WB AD SR FW TB md_X17_fitting 18 (.putfield 114, 18, 0, 0, []) := io_put (by decide +kernel) fo_RX17_114 po_RX17_0_18_0_0
theorem r_X17_fitting_21 : IOK WB AD SR FW TB md_X17_fitting 21 (.iconst 0, 0, 0, 0, []) := io_plain (by decide +kernel) rfl
theorem r_X17_fitting_22 : IOK WB AD SR FW TB md_X17_fitting 22 (.istore_n 1, 0, 0, 0, []) := io_plain (by decide +kernel) rfl
theorem r_X17_fitting_23 : IOK WB AD SR FW TB md_X17_fitting 23 (.iconst 0, 0, 0, 0, []) := io_plain (by decide +kernel) rfl
theorem r_X17_fitting_24 : IOK WB AD SR FW TB md_X17_fitting 24 (.istore_n 2, 0, 0, 0, []) := io_plain (by decide +kernel) rfl
theorem r_X17_fitting_25 : IOK WB AD SR FW TB md_X17_fitting 25 (.iload_n 2, 0, 0, 0, []) := io_plain (by decide +kernel) rfl
theorem r_X17_fitting_26 : IOK WB AD SR FW TB md_X17_fitting 26 (.aload_n 0, 0, 0, 0, []) := io_plain (by decide +kernel) rfl
theorem r_X17_fitting_27 : IOK WB AD SR FW TB md_X17_fitting 27 (.getfield 54, 18, 15, 2, []) := io_get (by decide +kernel) fo_RX17_54
theorem r_X17_fitting_30 : IOK WB AD SR FW TB md_X17_fitting 30 (.invokeinterface 271 1, 30, 0, 0, []) := io_face (by decide +kernel) tb_Jx4a65c_size_8abf5 (List.mem_of_getElem? (i := 0) rfl) (wb_8 32 rfl rfl) in_Jx4a65c_size_8abf5 (wb_8 35 rfl rfl) rfl rfl rfl pr_Jx4a65c_size_8abf5 (by decide)
theorem r_X17_fitting_35 : IOK WB AD SR FW TB md_X17_fitting 35 (.if_icmp .ge 53, 0, 0, 0, []) := io_plain (by decide +kernel) rfl
theorem r_X17_fitting_88 : IOK WB AD SR FW TB md_X17_fitting 88 (.iload_n 1, 0, 0, 0, []) := io_plain (by decide +kernel) rfl
theorem r_X17_fitting_89 : IOK WB AD SR FW TB md_X17_fitting 89 (.ireturn, 0, 0, 0, []) := io_plain (by decide +kernel) rfl
set_option maxRecDepth 100000 in
theorem ok_X17_fitting_0 : ∀ q ∈ tl_X17_fitting, IOK WB AD SR FW TB md_X17_fitting q.1 q.2 := List.forall_mem_cons.mpr ⟨r_X17_fitting_0, List.forall_mem_cons.mpr ⟨r_X17_fitting_1, List.forall_mem_cons.mpr ⟨r_X17_fitting_2, List.forall_mem_cons.mpr ⟨r_X17_fitting_5, List.forall_mem_cons.mpr ⟨r_X17_fitting_10, List.forall_mem_cons.mpr ⟨r_X17_fitting_13, List.forall_mem_cons.mpr ⟨r_X17_fitting_14, List.forall_mem_cons.mpr ⟨r_X17_fitting_18, List.forall_mem_cons.mpr ⟨r_X17_fitting_21, List.forall_mem_cons.mpr ⟨r_X17_fitting_22, List.forall_mem_cons.mpr ⟨r_X17_fitting_23, List.forall_mem_cons.mpr ⟨r_X17_fitting_24, List.forall_mem_cons.mpr ⟨r_X17_fitting_25, List.forall_mem_cons.mpr ⟨r_X17_fitting_26, List.forall_mem_cons.mpr ⟨r_X17_fitting_27, List.forall_mem_cons.mpr ⟨r_X17_fitting_30, List.forall_mem_cons.mpr ⟨r_X17_fitting_35, List.forall_mem_cons.mpr ⟨r_X17_fitting_88, List.forall_mem_cons.mpr ⟨r_X17_fitting_89, fun _ h => absurd h List.not_mem_nil⟩⟩⟩⟩⟩⟩⟩⟩⟩⟩⟩⟩⟩⟩⟩⟩⟩⟩⟩
set_option maxRecDepth 100000 in
theorem tq_X17_fitting_0 : tf_X17_fitting = tl_X17_fitting.map (fun q => (q.1, stepOf NPf md_X17_fitting q.2)) := rfl
theorem ro_X17_fitting : RowsOK (md_X17_fitting, tl_X17_fitting) tf_X17_fitting := ⟨tq_X17_fitting_0, ok_X17_fitting_0⟩
theorem r_X17_matching_0 : IOK WB AD SR FW TB md_X17_matching 0 (.aload_n 0, 0, 0, 0, []) := io_plain (by decide +kernel) rfl
theorem r_X17_matching_1 : IOK WB AD SR FW TB md_X17_matching 1 (.aload_n 0, 0, 0, 0, []) := io_plain (by decide +kernel) rfl
theorem r_X17_matching_2 : IOK WB AD SR FW TB md_X17_matching 2 (.getfield 44, 18, 13, 2, []) := io_get (by decide +kernel) fo_RX17_44
theorem r_X17_matching_5 : IOK WB AD SR FW TB md_X17_matching 5 (.invokeinterface 351 1, 43, 0, 0, []) := io_face (by decide +kernel) tb_Jx4a65c_isEmpty_aae02 (List.mem_of_getElem? (i := 2) rfl) (wb_8 9 rfl rfl) in_Jx4a65c_isEmpty_aae02 (wb_8 13 rfl rfl) rfl rfl rfl pr_Jx4a65c_isEmpty_aae02 (by decide)
theorem r_X17_matching_10 : IOK WB AD SR FW TB md_X17_matching 10 (.ifCond .eq 7, 0, 0, 0, []) := io_plain (by decide +kernel) rfl
theorem r_X17_matching_13 : IOK WB AD SR FW TB md_X17_matching 13 (.iconst 1, 0, 0, 0, []) := io_plain (by decide +kernel) rfl
theorem r_X17_matching_14 : IOK WB AD SR FW TB md_X17_matching 14 (.goto 4, 0, 0, 0, []) := io_plain (by decide +kernel) rfl
theorem r_X17_matching_18 : IOK WB AD SR FW TB md_X17_matching 18 (.putfield 114, 18, 0, 0, []) := io_put (by decide +kernel) fo_RX17_114 po_RX17_0_18_0_0
theorem r_X17_matching_21 : IOK WB AD SR FW TB md_X17_matching 21 (.iconst 0, 0, 0, 0, []) := io_plain (by decide +kernel) rfl
theorem r_X17_matching_22 : IOK WB AD SR FW TB md_X17_matching 22 (.istore_n 1, 0, 0, 0, []) := io_plain (by decide +kernel) rfl
theorem r_X17_matching_23 : IOK WB AD SR FW TB md_X17_matching 23 (.iconst 0, 0, 0, 0, []) := io_plain (by decide +kernel) rfl
theorem r_X17_matching_24 : IOK WB AD SR FW TB md_X17_matching 24 (.istore_n 2, 0, 0, 0, []) := io_plain (by decide +kernel) rfl
theorem r_X17_matching_25 : IOK WB AD SR FW TB md_X17_matching 25 (.iload_n 2, 0, 0, 0, []) := io_plain (by decide +kernel) rfl
theorem r_X17_matching_26 : IOK WB AD SR FW TB md_X17_matching 26 (.aload_n 0, 0, 0, 0, []) := io_plain (by decide +kernel) rfl
theorem r_X17_matching_27 : IOK WB AD SR FW TB md_X17_matching 27 (.getfield 54, 18, 15, 2, []) := io_get (by decide +kernel) fo_RX17_54
theorem r_X17_matching_30 : IOK WB AD SR FW TB md_X17_matching 30 (.invokeinterface 271 1, 30, 0, 0, []) := io_face (by decide +kernel) tb_Jx4a65c_size_8abf5 (List.mem_of_getElem? (i := 0) rfl) (wb_8 32 rfl rfl) in_Jx4a65c_size_8abf5 (wb_8 35 rfl rfl) rfl rfl rfl pr_Jx4a65c_size_8abf5 (by decide)
theorem r_X17_matching_35 : IOK WB AD SR FW TB md_X17_matching 35 (.if_icmp .ge 53, 0, 0, 0, []) := io_plain (by decide +kernel) rfl
theorem r_X17_matching_88 : IOK WB AD SR FW TB md_X17_matching 88 (.iload_n 1, 0, 0, 0, []) := io_plain (by decide +kernel) rfl
theorem r_X17_matching_89 : IOK WB AD SR FW TB md_X17_matching 89 (.ireturn, 0, 0, 0, []) := io_plain (by decide +kernel) rfl
set_option maxRecDepth 100000 in
theorem ok_X17_matching_0 : ∀ q ∈ tl_X17_matching, IOK WB AD SR FW TB md_X17_matching q.1 q.2 := List.forall_mem_cons.mpr ⟨r_X17_matching_0, List.forall_mem_cons.mpr ⟨r_X17_matching_1, List.forall_mem_cons.mpr ⟨r_X17_matching_2, List.forall_mem_cons.mpr ⟨r_X17_matching_5, List.forall_mem_cons.mpr ⟨r_X17_matching_10, List.forall_mem_cons.mpr ⟨r_X17_matching_13, List.forall_mem_cons.mpr ⟨r_X17_matching_14, List.forall_mem_cons.mpr ⟨r_X17_matching_18, List.forall_mem_cons.mpr ⟨r_X17_matching_21, List.forall_mem_cons.mpr ⟨r_X17_matching_22, List.forall_mem_cons.mpr ⟨r_X17_matching_23, List.forall_mem_cons.mpr ⟨r_X17_matching_24, List.forall_mem_cons.mpr ⟨r_X17_matching_25, List.forall_mem_cons.mpr ⟨r_X17_matching_26, List.forall_mem_cons.mpr ⟨r_X17_matching_27, List.forall_mem_cons.mpr ⟨r_X17_matching_30, List.forall_mem_cons.mpr ⟨r_X17_matching_35, List.forall_mem_cons.mpr ⟨r_X17_matching_88, List.forall_mem_cons.mpr ⟨r_X17_matching_89, fun _ h => absurd h List.not_mem_nil⟩⟩⟩⟩⟩⟩⟩⟩⟩⟩⟩⟩⟩⟩⟩⟩⟩⟩⟩
set_option maxRecDepth 100000 in
theorem tq_X17_matching_0 : tf_X17_matching = tl_X17_matching.map (fun q => (q.1, stepOf NPf md_X17_matching q.2)) := rfl
theorem ro_X17_matching : RowsOK (md_X17_matching, tl_X17_matching) tf_X17_matching := ⟨tq_X17_matching_0, ok_X17_matching_0⟩
theorem r_X10_sort_0 : IOK WB AD SR FW TB md_X10_sort 0 (.aload_n 0, 0, 0, 0, []) := io_plain (by decide +kernel) rfl
theorem r_X10_sort_1 : IOK WB AD SR FW TB md_X10_sort 1 (.getfield 12, 11, 0, 2, []) := io_get (by decide +kernel) fo_RX10_12
theorem r_X10_sort_4 : IOK WB AD SR FW TB md_X10_sort 4 (.getfield 78, 8, 0, 0, []) := io_get (by decide +kernel) fo_RX10_78
theorem r_X10_sort_7 : IOK WB AD SR FW TB md_X10_sort 7 (.bipush 8, 0, 0, 0, []) := io_plain (by decide +kernel) rfl
theorem r_X10_sort_9 : IOK WB AD SR FW TB md_X10_sort 9 (.if_icmp .lt 13, 0, 0, 0, []) := io_plain (by decide +kernel) rfl
theorem r_X10_sort_22 : IOK WB AD SR FW TB md_X10_sort 22 (.aload_n 0, 0, 0, 0, []) := io_plain (by decide +kernel) rfl
theorem r_X10_sort_23 : IOK WB AD SR FW TB md_X10_sort 23 (.getfield 12, 11, 0, 2, []) := io_get (by decide +kernel) fo_RX10_12
theorem r_X10_sort_26 : IOK WB AD SR FW TB md_X10_sort 26 (.dup, 0, 0, 0, []) := io_plain (by decide +kernel) rfl
theorem r_X10_sort_27 : IOK WB AD SR FW TB md_X10_sort 27 (.getfield 78, 8, 0, 0, []) := io_get (by decide +kernel) fo_RX10_78
theorem r_X10_sort_30 : IOK WB AD SR FW TB md_X10_sort 30 (.iconst 1, 0, 0, 0, []) := io_plain (by decide +kernel) rfl
theorem r_X10_sort_31 : IOK WB AD SR FW TB md_X10_sort 31 (.iadd, 0, 0, 0, []) := io_plain (by decide +kernel) rfl
theorem r_X10_sort_32 : IOK WB AD SR FW TB md_X10_sort 32 (.putfield 78, 8, 0, 0, []) := io_put (by decide +kernel) fo_RX10_78 po_RX10_0_8_0_0
theorem r_X10_sort_35 : IOK WB AD SR FW TB md_X10_sort 35 (.aload_n 0, 0, 0, 0, []) := io_plain (by decide +kernel) rfl
theorem r_X10_sort_36 : IOK WB AD SR FW TB md_X10_sort 36 (.getfield 12, 11, 0, 2, []) := io_get (by decide +kernel) fo_RX10_12
theorem r_X10_sort_39 : IOK WB AD SR FW TB md_X10_sort 39 (.getfield 78, 8, 0, 0, []) := io_get (by decide +kernel) fo_RX10_78
theorem r_X10_sort_42 : IOK WB AD SR FW TB md_X10_sort 42 (.iconst 1, 0, 0, 0, []) := io_plain (by decide +kernel) rfl
theorem r_X10_sort_43 : IOK WB AD SR FW TB md_X10_sort 43 (.isub, 0, 0, 0, []) := io_plain (by decide +kernel) rfl
theorem r_X10_sort_44 : IOK WB AD SR FW TB md_X10_sort 44 (.ireturn, 0, 0, 0, []) := io_plain (by decide +kernel) rfl
set_option maxRecDepth 100000 in
theorem ok_X10_sort_0 : ∀ q ∈ tl_X10_sort, IOK WB AD SR FW TB md_X10_sort q.1 q.2 := List.forall_mem_cons.mpr ⟨r_X10_sort_0, List.forall_mem_cons.mpr ⟨r_X10_sort_1, List.forall_mem_cons.mpr ⟨r_X10_sort_4, List.forall_mem_cons.mpr ⟨r_X10_sort_7, List.forall_mem_cons.mpr ⟨r_X10_sort_9, List.forall_mem_cons.mpr ⟨r_X10_sort_22, List.forall_mem_cons.mpr ⟨r_X10_sort_23, List.forall_mem_cons.mpr ⟨r_X10_sort_26, List.forall_mem_cons.mpr ⟨r_X10_sort_27, List.forall_mem_cons.mpr ⟨r_X10_sort_30, List.forall_mem_cons.mpr ⟨r_X10_sort_31, List.forall_mem_cons.mpr ⟨r_X10_sort_32, List.forall_mem_cons.mpr ⟨r_X10_sort_35, List.forall_mem_cons.mpr ⟨r_X10_sort_36, List.forall_mem_cons.mpr ⟨r_X10_sort_39, List.forall_mem_cons.mpr ⟨r_X10_sort_42, List.forall_mem_cons.mpr ⟨r_X10_sort_43, List.forall_mem_cons.mpr ⟨r_X10_sort_44, fun _ h => absurd h List.not_mem_nil⟩⟩⟩⟩⟩⟩⟩⟩⟩⟩⟩⟩⟩⟩⟩⟩⟩⟩
set_option maxRecDepth 100000 in
theorem tq_X10_sort_0 : tf_X10_sort = tl_X10_sort.map (fun q => (q.1, stepOf NPf md_X10_sort q.2)) := rfl
theorem ro_X10_sort : RowsOK (md_X10_sort, tl_X10_sort) tf_X10_sort := ⟨tq_X10_sort_0, ok_X10_sort_0⟩
theorem r_X10_keep_0 : IOK WB AD SR FW TB md_X10_keep 0 (.iload_n 1, 0, 0, 0, []) := io_plain (by decide +kernel) rfl
theorem r_X10_keep_1 : IOK WB AD SR FW TB md_X10_keep 1 (.ifCond .lt 9, 0, 0, 0, []) := io_plain (by decide +kernel) rfl
theorem r_X10_keep_4 : IOK WB AD SR FW TB md_X10_keep 4 (.iload_n 1, 0, 0, 0, []) := io_plain (by decide +kernel) rfl
theorem r_X10_keep_5 : IOK WB AD SR FW TB md_X10_keep 5 (.bipush 20, 0, 0, 0, []) := io_plain (by decide +kernel) rfl
theorem r_X10_keep_7 : IOK WB AD SR FW TB md_X10_keep 7 (.if_icmp .lt 13, 0, 0, 0, []) := io_plain (by decide +kernel) rfl
set_option maxRecDepth 100000 in
theorem r_X10_keep_10 : IOK WB AD SR FW TB md_X10_keep 10 (.new 111, 102, 189, 115, []) := io_thx 2 rfl (thk_mk RX10 rfl 111 189 115 2 "there is no such slot" false (List.mem_of_getElem? (i := 3) rfl) (by decide) (by decide +kernel) (by decide +kernel) ⟨by decide +kernel, by decide +kernel, by decide +kernel⟩ (wb_5 63 rfl rfl) (wb_1 23 rfl rfl) at_RX10_115_2 rfl) (by decide +kernel)
theorem r_X10_keep_13 : IOK WB AD SR FW TB md_X10_keep 13 (.dup, 0, 0, 0, []) := io_plain (by decide +kernel) rfl
theorem r_X10_keep_20 : IOK WB AD SR FW TB md_X10_keep 20 (.aload_n 0, 0, 0, 0, []) := io_plain (by decide +kernel) rfl
theorem r_X10_keep_21 : IOK WB AD SR FW TB md_X10_keep 21 (.getfield 160, 11, 8, 0, []) := io_get (by decide +kernel) fo_RX10_160
theorem r_X10_keep_24 : IOK WB AD SR FW TB md_X10_keep 24 (.ifCond .ne 13, 0, 0, 0, []) := io_plain (by decide +kernel) rfl
set_option maxRecDepth 100000 in
theorem r_X10_keep_27 : IOK WB AD SR FW TB md_X10_keep 27 (.new 82, 100, 191, 86, []) := io_thx 0 rfl (thk_mk RX10 rfl 82 191 86 0 "there are no terms" false (List.mem_of_getElem? (i := 8) rfl) (by decide) (by decide +kernel) (by decide +kernel) ⟨by decide +kernel, by decide +kernel, by decide +kernel⟩ (wb_4 188 rfl rfl) (wb_1 21 rfl rfl) at_RX10_86_0 rfl) (by decide +kernel)
theorem r_X10_keep_30 : IOK WB AD SR FW TB md_X10_keep 30 (.dup, 0, 0, 0, []) := io_plain (by decide +kernel) rfl
theorem r_X10_keep_37 : IOK WB AD SR FW TB md_X10_keep 37 (.aload_n 0, 0, 0, 0, []) := io_plain (by decide +kernel) rfl
set_option maxRecDepth 100000 in
theorem ok_X10_keep_0 : ∀ q ∈ tl_X10_keep, IOK WB AD SR FW TB md_X10_keep q.1 q.2 := List.forall_mem_cons.mpr ⟨r_X10_keep_0, List.forall_mem_cons.mpr ⟨r_X10_keep_1, List.forall_mem_cons.mpr ⟨r_X10_keep_4, List.forall_mem_cons.mpr ⟨r_X10_keep_5, List.forall_mem_cons.mpr ⟨r_X10_keep_7, List.forall_mem_cons.mpr ⟨r_X10_keep_10, List.forall_mem_cons.mpr ⟨r_X10_keep_13, List.forall_mem_cons.mpr ⟨r_X10_keep_20, List.forall_mem_cons.mpr ⟨r_X10_keep_21, List.forall_mem_cons.mpr ⟨r_X10_keep_24, List.forall_mem_cons.mpr ⟨r_X10_keep_27, List.forall_mem_cons.mpr ⟨r_X10_keep_30, List.forall_mem_cons.mpr ⟨r_X10_keep_37, fun _ h => absurd h List.not_mem_nil⟩⟩⟩⟩⟩⟩⟩⟩⟩⟩⟩⟩⟩
set_option maxRecDepth 100000 in
theorem tq_X10_keep_0 : tf_X10_keep = tl_X10_keep.map (fun q => (q.1, stepOf NPf md_X10_keep q.2)) := rfl
theorem ro_X10_keep : RowsOK (md_X10_keep, tl_X10_keep) tf_X10_keep := ⟨tq_X10_keep_0, ok_X10_keep_0⟩
theorem r_X10_holds_0 : IOK WB AD SR FW TB md_X10_holds 0 (.iload_n 1, 0, 0, 0, []) := io_plain (by decide +kernel) rfl
theorem r_X10_holds_1 : IOK WB AD SR FW TB md_X10_holds 1 (.ifCond .lt 8, 0, 0, 0, []) := io_plain (by decide +kernel) rfl
theorem r_X10_holds_4 : IOK WB AD SR FW TB md_X10_holds 4 (.iload_n 1, 0, 0, 0, []) := io_plain (by decide +kernel) rfl
theorem r_X10_holds_5 : IOK WB AD SR FW TB md_X10_holds 5 (.iconst 2, 0, 0, 0, []) := io_plain (by decide +kernel) rfl
theorem r_X10_holds_6 : IOK WB AD SR FW TB md_X10_holds 6 (.if_icmp .le 14, 0, 0, 0, []) := io_plain (by decide +kernel) rfl
set_option maxRecDepth 100000 in
theorem r_X10_holds_9 : IOK WB AD SR FW TB md_X10_holds 9 (.new 111, 102, 311, 115, [1]) := io_thx 2 rfl (thk_mk RX10 rfl 111 311 115 2 "there is no such claim" true (List.mem_of_getElem? (i := 9) rfl) (by decide) (by decide +kernel) (by decide +kernel) ⟨by decide +kernel, by decide +kernel, by decide +kernel⟩ (wb_5 63 rfl rfl) (wb_1 23 rfl rfl) at_RX10_115_2 rfl) (by decide +kernel)
theorem r_X10_holds_12 : IOK WB AD SR FW TB md_X10_holds 12 (.dup, 0, 0, 0, []) := io_plain (by decide +kernel) rfl
theorem r_X10_holds_20 : IOK WB AD SR FW TB md_X10_holds 20 (.aload_n 0, 0, 0, 0, []) := io_plain (by decide +kernel) rfl
theorem r_X10_holds_21 : IOK WB AD SR FW TB md_X10_holds 21 (.invokevirtual 303, 99, 11, 0, []) := io_virt (by decide +kernel) tb_X10_hasPattern (wb_6 97 rfl rfl) in_X10_hasPattern se_X10_hasPattern ⟨_, rfl, rfl⟩ pr_X10_hasPattern (by decide)
theorem r_X10_holds_24 : IOK WB AD SR FW TB md_X10_holds 24 (.ifCond .eq 23, 0, 0, 0, []) := io_plain (by decide +kernel) rfl
set_option maxRecDepth 100000 in
theorem r_X10_holds_47 : IOK WB AD SR FW TB md_X10_holds 47 (.new 82, 100, 313, 86, [1]) := io_thx 0 rfl (thk_mk RX10 rfl 82 313 86 0 "there is no pattern, or no search that is not cut" true (List.mem_of_getElem? (i := 10) rfl) (by decide) (by decide +kernel) (by decide +kernel) ⟨by decide +kernel, by decide +kernel, by decide +kernel⟩ (wb_4 188 rfl rfl) (wb_1 21 rfl rfl) at_RX10_86_0 rfl) (by decide +kernel)
theorem r_X10_holds_50 : IOK WB AD SR FW TB md_X10_holds 50 (.dup, 0, 0, 0, []) := io_plain (by decide +kernel) rfl
set_option maxRecDepth 100000 in
theorem ok_X10_holds_0 : ∀ q ∈ tl_X10_holds, IOK WB AD SR FW TB md_X10_holds q.1 q.2 := List.forall_mem_cons.mpr ⟨r_X10_holds_0, List.forall_mem_cons.mpr ⟨r_X10_holds_1, List.forall_mem_cons.mpr ⟨r_X10_holds_4, List.forall_mem_cons.mpr ⟨r_X10_holds_5, List.forall_mem_cons.mpr ⟨r_X10_holds_6, List.forall_mem_cons.mpr ⟨r_X10_holds_9, List.forall_mem_cons.mpr ⟨r_X10_holds_12, List.forall_mem_cons.mpr ⟨r_X10_holds_20, List.forall_mem_cons.mpr ⟨r_X10_holds_21, List.forall_mem_cons.mpr ⟨r_X10_holds_24, List.forall_mem_cons.mpr ⟨r_X10_holds_47, List.forall_mem_cons.mpr ⟨r_X10_holds_50, fun _ h => absurd h List.not_mem_nil⟩⟩⟩⟩⟩⟩⟩⟩⟩⟩⟩⟩
set_option maxRecDepth 100000 in
theorem tq_X10_holds_0 : tf_X10_holds = tl_X10_holds.map (fun q => (q.1, stepOf NPf md_X10_holds q.2)) := rfl
theorem ro_X10_holds : RowsOK (md_X10_holds, tl_X10_holds) tf_X10_holds := ⟨tq_X10_holds_0, ok_X10_holds_0⟩
theorem r_X10_both_0 : IOK WB AD SR FW TB md_X10_both 0 (.aload_n 0, 0, 0, 0, []) := io_plain (by decide +kernel) rfl
theorem r_X10_both_1 : IOK WB AD SR FW TB md_X10_both 1 (.getfield 67, 11, 6, 2, []) := io_get (by decide +kernel) fo_RX10_67
theorem r_X10_both_4 : IOK WB AD SR FW TB md_X10_both 4 (.getfield 320, 6, 2, 0, []) := io_get (by decide +kernel) fo_RX10_320
theorem r_X10_both_7 : IOK WB AD SR FW TB md_X10_both 7 (.iconst 2, 0, 0, 0, []) := io_plain (by decide +kernel) rfl
theorem r_X10_both_8 : IOK WB AD SR FW TB md_X10_both 8 (.if_icmp .lt 15, 0, 0, 0, []) := io_plain (by decide +kernel) rfl
set_option maxRecDepth 100000 in
theorem r_X10_both_23 : IOK WB AD SR FW TB md_X10_both 23 (.new 82, 100, 334, 86, [1]) := io_thx 0 rfl (thk_mk RX10 rfl 82 334 86 0 "there are not two strategies, or too many parts" true (List.mem_of_getElem? (i := 11) rfl) (by decide) (by decide +kernel) (by decide +kernel) ⟨by decide +kernel, by decide +kernel, by decide +kernel⟩ (wb_4 188 rfl rfl) (wb_1 21 rfl rfl) at_RX10_86_0 rfl) (by decide +kernel)
theorem r_X10_both_26 : IOK WB AD SR FW TB md_X10_both 26 (.dup, 0, 0, 0, []) := io_plain (by decide +kernel) rfl
set_option maxRecDepth 100000 in
theorem ok_X10_both_0 : ∀ q ∈ tl_X10_both, IOK WB AD SR FW TB md_X10_both q.1 q.2 := List.forall_mem_cons.mpr ⟨r_X10_both_0, List.forall_mem_cons.mpr ⟨r_X10_both_1, List.forall_mem_cons.mpr ⟨r_X10_both_4, List.forall_mem_cons.mpr ⟨r_X10_both_7, List.forall_mem_cons.mpr ⟨r_X10_both_8, List.forall_mem_cons.mpr ⟨r_X10_both_23, List.forall_mem_cons.mpr ⟨r_X10_both_26, fun _ h => absurd h List.not_mem_nil⟩⟩⟩⟩⟩⟩⟩
set_option maxRecDepth 100000 in
theorem tq_X10_both_0 : tf_X10_both = tl_X10_both.map (fun q => (q.1, stepOf NPf md_X10_both q.2)) := rfl
theorem ro_X10_both : RowsOK (md_X10_both, tl_X10_both) tf_X10_both := ⟨tq_X10_both_0, ok_X10_both_0⟩
theorem r_X10_hasPatternAndSubject_0 : IOK WB AD SR FW TB md_X10_hasPatternAndSubject 0 (.aload_n 0, 0, 0, 0, []) := io_plain (by decide +kernel) rfl
theorem r_X10_hasPatternAndSubject_1 : IOK WB AD SR FW TB md_X10_hasPatternAndSubject 1 (.getfield 160, 11, 8, 0, []) := io_get (by decide +kernel) fo_RX10_160
theorem r_X10_hasPatternAndSubject_4 : IOK WB AD SR FW TB md_X10_hasPatternAndSubject 4 (.iconst 1, 0, 0, 0, []) := io_plain (by decide +kernel) rfl
theorem r_X10_hasPatternAndSubject_5 : IOK WB AD SR FW TB md_X10_hasPatternAndSubject 5 (.if_icmp .le 26, 0, 0, 0, []) := io_plain (by decide +kernel) rfl
theorem r_X10_hasPatternAndSubject_31 : IOK WB AD SR FW TB md_X10_hasPatternAndSubject 31 (.iconst 0, 0, 0, 0, []) := io_plain (by decide +kernel) rfl
theorem r_X10_hasPatternAndSubject_32 : IOK WB AD SR FW TB md_X10_hasPatternAndSubject 32 (.ireturn, 0, 0, 0, []) := io_plain (by decide +kernel) rfl
set_option maxRecDepth 100000 in
theorem ok_X10_hasPatternAndSubject_0 : ∀ q ∈ tl_X10_hasPatternAndSubject, IOK WB AD SR FW TB md_X10_hasPatternAndSubject q.1 q.2 := List.forall_mem_cons.mpr ⟨r_X10_hasPatternAndSubject_0, List.forall_mem_cons.mpr ⟨r_X10_hasPatternAndSubject_1, List.forall_mem_cons.mpr ⟨r_X10_hasPatternAndSubject_4, List.forall_mem_cons.mpr ⟨r_X10_hasPatternAndSubject_5, List.forall_mem_cons.mpr ⟨r_X10_hasPatternAndSubject_31, List.forall_mem_cons.mpr ⟨r_X10_hasPatternAndSubject_32, fun _ h => absurd h List.not_mem_nil⟩⟩⟩⟩⟩⟩
set_option maxRecDepth 100000 in
theorem tq_X10_hasPatternAndSubject_0 : tf_X10_hasPatternAndSubject = tl_X10_hasPatternAndSubject.map (fun q => (q.1, stepOf NPf md_X10_hasPatternAndSubject q.2)) := rfl
theorem ro_X10_hasPatternAndSubject : RowsOK (md_X10_hasPatternAndSubject, tl_X10_hasPatternAndSubject) tf_X10_hasPatternAndSubject := ⟨tq_X10_hasPatternAndSubject_0, ok_X10_hasPatternAndSubject_0⟩
theorem r_L_below_0 : IOK WB AD SR FW TB md_L_below 0 (.aload_n 3, 0, 0, 0, []) := io_plain (by decide +kernel) rfl
theorem r_L_below_1 : IOK WB AD SR FW TB md_L_below 1 (.iconst 0, 0, 0, 0, []) := io_plain (by decide +kernel) rfl
theorem r_L_below_2 : IOK WB AD SR FW TB md_L_below 2 (.aload_n 0, 0, 0, 0, []) := io_plain (by decide +kernel) rfl
theorem r_L_below_3 : IOK WB AD SR FW TB md_L_below 3 (.iload_n 1, 0, 0, 0, []) := io_plain (by decide +kernel) rfl
theorem r_L_below_4 : IOK WB AD SR FW TB md_L_below 4 (.iload_n 2, 0, 0, 0, []) := io_plain (by decide +kernel) rfl
theorem r_L_below_5 : IOK WB AD SR FW TB md_L_below 5 (.invokevirtual 15, 107, 11, 0, []) := io_virt (by decide +kernel) tb_X10_below (wb_5 21 rfl rfl) in_X10_below se_X10_below ⟨_, rfl, rfl⟩ pr_X10_below (by decide)
theorem r_L_below_20 : IOK WB AD SR FW TB md_L_below 20 (.astore 4, 0, 0, 0, []) := io_plain (by decide +kernel) rfl
theorem r_L_below_22 : IOK WB AD SR FW TB md_L_below 22 (.iconst 1, 0, 0, 0, []) := io_plain (by decide +kernel) rfl
theorem r_L_below_23 : IOK WB AD SR FW TB md_L_below 23 (.ireturn, 0, 0, 0, []) := io_plain (by decide +kernel) rfl
set_option maxRecDepth 100000 in
theorem ok_L_below_0 : ∀ q ∈ tl_L_below, IOK WB AD SR FW TB md_L_below q.1 q.2 := List.forall_mem_cons.mpr ⟨r_L_below_0, List.forall_mem_cons.mpr ⟨r_L_below_1, List.forall_mem_cons.mpr ⟨r_L_below_2, List.forall_mem_cons.mpr ⟨r_L_below_3, List.forall_mem_cons.mpr ⟨r_L_below_4, List.forall_mem_cons.mpr ⟨r_L_below_5, List.forall_mem_cons.mpr ⟨r_L_below_20, List.forall_mem_cons.mpr ⟨r_L_below_22, List.forall_mem_cons.mpr ⟨r_L_below_23, fun _ h => absurd h List.not_mem_nil⟩⟩⟩⟩⟩⟩⟩⟩⟩
set_option maxRecDepth 100000 in
theorem tq_L_below_0 : tf_L_below = tl_L_below.map (fun q => (q.1, stepOf NPf md_L_below q.2)) := rfl
theorem ro_L_below : RowsOK (md_L_below, tl_L_below) tf_L_below := ⟨tq_L_below_0, ok_L_below_0⟩
theorem r_L_variable_0 : IOK WB AD SR FW TB md_L_variable 0 (.aload_n 3, 0, 0, 0, []) := io_plain (by decide +kernel) rfl
theorem r_L_variable_1 : IOK WB AD SR FW TB md_L_variable 1 (.iconst 0, 0, 0, 0, []) := io_plain (by decide +kernel) rfl
theorem r_L_variable_2 : IOK WB AD SR FW TB md_L_variable 2 (.aload_n 0, 0, 0, 0, []) := io_plain (by decide +kernel) rfl
theorem r_L_variable_3 : IOK WB AD SR FW TB md_L_variable 3 (.iload_n 1, 0, 0, 0, []) := io_plain (by decide +kernel) rfl
theorem r_L_variable_4 : IOK WB AD SR FW TB md_L_variable 4 (.iload_n 2, 0, 0, 0, []) := io_plain (by decide +kernel) rfl
theorem r_L_variable_5 : IOK WB AD SR FW TB md_L_variable 5 (.invokevirtual 21, 108, 11, 0, []) := io_virt (by decide +kernel) tb_X10_variable (wb_5 56 rfl rfl) in_X10_variable se_X10_variable ⟨_, rfl, rfl⟩ pr_X10_variable (by decide)
theorem r_L_variable_13 : IOK WB AD SR FW TB md_L_variable 13 (.astore 4, 0, 0, 0, []) := io_plain (by decide +kernel) rfl
theorem r_L_variable_15 : IOK WB AD SR FW TB md_L_variable 15 (.iconst 1, 0, 0, 0, []) := io_plain (by decide +kernel) rfl
theorem r_L_variable_16 : IOK WB AD SR FW TB md_L_variable 16 (.ireturn, 0, 0, 0, []) := io_plain (by decide +kernel) rfl
set_option maxRecDepth 100000 in
theorem ok_L_variable_0 : ∀ q ∈ tl_L_variable, IOK WB AD SR FW TB md_L_variable q.1 q.2 := List.forall_mem_cons.mpr ⟨r_L_variable_0, List.forall_mem_cons.mpr ⟨r_L_variable_1, List.forall_mem_cons.mpr ⟨r_L_variable_2, List.forall_mem_cons.mpr ⟨r_L_variable_3, List.forall_mem_cons.mpr ⟨r_L_variable_4, List.forall_mem_cons.mpr ⟨r_L_variable_5, List.forall_mem_cons.mpr ⟨r_L_variable_13, List.forall_mem_cons.mpr ⟨r_L_variable_15, List.forall_mem_cons.mpr ⟨r_L_variable_16, fun _ h => absurd h List.not_mem_nil⟩⟩⟩⟩⟩⟩⟩⟩⟩
set_option maxRecDepth 100000 in
theorem tq_L_variable_0 : tf_L_variable = tl_L_variable.map (fun q => (q.1, stepOf NPf md_L_variable q.2)) := rfl
theorem ro_L_variable : RowsOK (md_L_variable, tl_L_variable) tf_L_variable := ⟨tq_L_variable_0, ok_L_variable_0⟩
theorem r_L_view_0 : IOK WB AD SR FW TB md_L_view 0 (.aload_n 3, 0, 0, 0, []) := io_plain (by decide +kernel) rfl
theorem r_L_view_1 : IOK WB AD SR FW TB md_L_view 1 (.iconst 0, 0, 0, 0, []) := io_plain (by decide +kernel) rfl
theorem r_L_view_2 : IOK WB AD SR FW TB md_L_view 2 (.aload_n 0, 0, 0, 0, []) := io_plain (by decide +kernel) rfl
theorem r_L_view_3 : IOK WB AD SR FW TB md_L_view 3 (.iload_n 1, 0, 0, 0, []) := io_plain (by decide +kernel) rfl
theorem r_L_view_4 : IOK WB AD SR FW TB md_L_view 4 (.iload_n 2, 0, 0, 0, []) := io_plain (by decide +kernel) rfl
theorem r_L_view_5 : IOK WB AD SR FW TB md_L_view 5 (.invokevirtual 120, 112, 11, 0, []) := io_virt (by decide +kernel) tb_X10_view (wb_7 21 rfl rfl) in_X10_view se_X10_view ⟨_, rfl, rfl⟩ pr_X10_view (by decide)
theorem r_L_view_13 : IOK WB AD SR FW TB md_L_view 13 (.astore 4, 0, 0, 0, []) := io_plain (by decide +kernel) rfl
theorem r_L_view_15 : IOK WB AD SR FW TB md_L_view 15 (.iconst 1, 0, 0, 0, []) := io_plain (by decide +kernel) rfl
theorem r_L_view_16 : IOK WB AD SR FW TB md_L_view 16 (.ireturn, 0, 0, 0, []) := io_plain (by decide +kernel) rfl
set_option maxRecDepth 100000 in
theorem ok_L_view_0 : ∀ q ∈ tl_L_view, IOK WB AD SR FW TB md_L_view q.1 q.2 := List.forall_mem_cons.mpr ⟨r_L_view_0, List.forall_mem_cons.mpr ⟨r_L_view_1, List.forall_mem_cons.mpr ⟨r_L_view_2, List.forall_mem_cons.mpr ⟨r_L_view_3, List.forall_mem_cons.mpr ⟨r_L_view_4, List.forall_mem_cons.mpr ⟨r_L_view_5, List.forall_mem_cons.mpr ⟨r_L_view_13, List.forall_mem_cons.mpr ⟨r_L_view_15, List.forall_mem_cons.mpr ⟨r_L_view_16, fun _ h => absurd h List.not_mem_nil⟩⟩⟩⟩⟩⟩⟩⟩⟩
set_option maxRecDepth 100000 in
theorem tq_L_view_0 : tf_L_view = tl_L_view.map (fun q => (q.1, stepOf NPf md_L_view q.2)) := rfl
theorem ro_L_view : RowsOK (md_L_view, tl_L_view) tf_L_view := ⟨tq_L_view_0, ok_L_view_0⟩
theorem r_X17_many_0 : IOK WB AD SR FW TB md_X17_many 0 (.aload_n 0, 0, 0, 0, []) := io_plain (by decide +kernel) rfl
theorem r_X17_many_1 : IOK WB AD SR FW TB md_X17_many 1 (.getfield 60, 18, 17, 2, []) := io_get (by decide +kernel) fo_RX17_60
theorem r_X17_many_4 : IOK WB AD SR FW TB md_X17_many 4 (.invokeinterface 271 1, 30, 0, 0, []) := io_face (by decide +kernel) tb_Jx4a65c_size_8abf5 (List.mem_of_getElem? (i := 0) rfl) (wb_8 32 rfl rfl) in_Jx4a65c_size_8abf5 (wb_8 35 rfl rfl) rfl rfl rfl pr_Jx4a65c_size_8abf5 (by decide)
theorem r_X17_many_9 : IOK WB AD SR FW TB md_X17_many 9 (.istore_n 1, 0, 0, 0, []) := io_plain (by decide +kernel) rfl
theorem r_X17_many_10 : IOK WB AD SR FW TB md_X17_many 10 (.aload_n 0, 0, 0, 0, []) := io_plain (by decide +kernel) rfl
theorem r_X17_many_11 : IOK WB AD SR FW TB md_X17_many 11 (.iload_n 1, 0, 0, 0, []) := io_plain (by decide +kernel) rfl
theorem r_X17_many_12 : IOK WB AD SR FW TB md_X17_many 12 (.iconst 1, 0, 0, 0, []) := io_plain (by decide +kernel) rfl
theorem r_X17_many_13 : IOK WB AD SR FW TB md_X17_many 13 (.if_icmp .lt 28, 0, 0, 0, []) := io_plain (by decide +kernel) rfl
theorem r_X17_many_41 : IOK WB AD SR FW TB md_X17_many 41 (.iconst 1, 0, 0, 0, []) := io_plain (by decide +kernel) rfl
theorem r_X17_many_42 : IOK WB AD SR FW TB md_X17_many 42 (.goto 4, 0, 0, 0, []) := io_plain (by decide +kernel) rfl
theorem r_X17_many_46 : IOK WB AD SR FW TB md_X17_many 46 (.putfield 114, 18, 0, 0, []) := io_put (by decide +kernel) fo_RX17_114 po_RX17_0_18_0_0
theorem r_X17_many_49 : IOK WB AD SR FW TB md_X17_many 49 (.aload_n 0, 0, 0, 0, []) := io_plain (by decide +kernel) rfl
theorem r_X17_many_50 : IOK WB AD SR FW TB md_X17_many 50 (.getfield 114, 18, 0, 0, []) := io_get (by decide +kernel) fo_RX17_114
theorem r_X17_many_53 : IOK WB AD SR FW TB md_X17_many 53 (.ifCond .le 7, 0, 0, 0, []) := io_plain (by decide +kernel) rfl
theorem r_X17_many_56 : IOK WB AD SR FW TB md_X17_many 56 (.iconst 0, 0, 0, 0, []) := io_plain (by decide +kernel) rfl
theorem r_X17_many_57 : IOK WB AD SR FW TB md_X17_many 57 (.goto 33, 0, 0, 0, []) := io_plain (by decide +kernel) rfl
theorem r_X17_many_90 : IOK WB AD SR FW TB md_X17_many 90 (.ireturn, 0, 0, 0, []) := io_plain (by decide +kernel) rfl
set_option maxRecDepth 100000 in
theorem ok_X17_many_0 : ∀ q ∈ tl_X17_many, IOK WB AD SR FW TB md_X17_many q.1 q.2 := List.forall_mem_cons.mpr ⟨r_X17_many_0, List.forall_mem_cons.mpr ⟨r_X17_many_1, List.forall_mem_cons.mpr ⟨r_X17_many_4, List.forall_mem_cons.mpr ⟨r_X17_many_9, List.forall_mem_cons.mpr ⟨r_X17_many_10, List.forall_mem_cons.mpr ⟨r_X17_many_11, List.forall_mem_cons.mpr ⟨r_X17_many_12, List.forall_mem_cons.mpr ⟨r_X17_many_13, List.forall_mem_cons.mpr ⟨r_X17_many_41, List.forall_mem_cons.mpr ⟨r_X17_many_42, List.forall_mem_cons.mpr ⟨r_X17_many_46, List.forall_mem_cons.mpr ⟨r_X17_many_49, List.forall_mem_cons.mpr ⟨r_X17_many_50, List.forall_mem_cons.mpr ⟨r_X17_many_53, List.forall_mem_cons.mpr ⟨r_X17_many_56, List.forall_mem_cons.mpr ⟨r_X17_many_57, List.forall_mem_cons.mpr ⟨r_X17_many_90, fun _ h => absurd h List.not_mem_nil⟩⟩⟩⟩⟩⟩⟩⟩⟩⟩⟩⟩⟩⟩⟩⟩⟩
set_option maxRecDepth 100000 in
theorem tq_X17_many_0 : tf_X17_many = tl_X17_many.map (fun q => (q.1, stepOf NPf md_X17_many q.2)) := rfl
theorem ro_X17_many : RowsOK (md_X17_many, tl_X17_many) tf_X17_many := ⟨tq_X17_many_0, ok_X17_many_0⟩
theorem r_L_apply_0 : IOK WB AD SR FW TB md_L_apply 0 (.aload_n 2, 0, 0, 0, []) := io_plain (by decide +kernel) rfl
theorem r_L_apply_1 : IOK WB AD SR FW TB md_L_apply 1 (.iconst 0, 0, 0, 0, []) := io_plain (by decide +kernel) rfl
theorem r_L_apply_2 : IOK WB AD SR FW TB md_L_apply 2 (.aload_n 0, 0, 0, 0, []) := io_plain (by decide +kernel) rfl
theorem r_L_apply_3 : IOK WB AD SR FW TB md_L_apply 3 (.iload_n 1, 0, 0, 0, []) := io_plain (by decide +kernel) rfl
theorem r_L_apply_4 : IOK WB AD SR FW TB md_L_apply 4 (.invokevirtual 39, 110, 11, 0, []) := io_virt (by decide +kernel) tb_X10_apply (wb_5 136 rfl rfl) in_X10_apply se_X10_apply ⟨_, rfl, rfl⟩ pr_X10_apply (by decide)
theorem r_L_apply_12 : IOK WB AD SR FW TB md_L_apply 12 (.astore_n 3, 0, 0, 0, []) := io_plain (by decide +kernel) rfl
theorem r_L_apply_13 : IOK WB AD SR FW TB md_L_apply 13 (.iconst 1, 0, 0, 0, []) := io_plain (by decide +kernel) rfl
theorem r_L_apply_14 : IOK WB AD SR FW TB md_L_apply 14 (.ireturn, 0, 0, 0, []) := io_plain (by decide +kernel) rfl
set_option maxRecDepth 100000 in
theorem ok_L_apply_0 : ∀ q ∈ tl_L_apply, IOK WB AD SR FW TB md_L_apply q.1 q.2 := List.forall_mem_cons.mpr ⟨r_L_apply_0, List.forall_mem_cons.mpr ⟨r_L_apply_1, List.forall_mem_cons.mpr ⟨r_L_apply_2, List.forall_mem_cons.mpr ⟨r_L_apply_3, List.forall_mem_cons.mpr ⟨r_L_apply_4, List.forall_mem_cons.mpr ⟨r_L_apply_12, List.forall_mem_cons.mpr ⟨r_L_apply_13, List.forall_mem_cons.mpr ⟨r_L_apply_14, fun _ h => absurd h List.not_mem_nil⟩⟩⟩⟩⟩⟩⟩⟩
set_option maxRecDepth 100000 in
theorem tq_L_apply_0 : tf_L_apply = tl_L_apply.map (fun q => (q.1, stepOf NPf md_L_apply q.2)) := rfl
theorem ro_L_apply : RowsOK (md_L_apply, tl_L_apply) tf_L_apply := ⟨tq_L_apply_0, ok_L_apply_0⟩
theorem r_L_state_0 : IOK WB AD SR FW TB md_L_state 0 (.aload_n 2, 0, 0, 0, []) := io_plain (by decide +kernel) rfl
theorem r_L_state_1 : IOK WB AD SR FW TB md_L_state 1 (.iconst 0, 0, 0, 0, []) := io_plain (by decide +kernel) rfl
theorem r_L_state_2 : IOK WB AD SR FW TB md_L_state 2 (.aload_n 0, 0, 0, 0, []) := io_plain (by decide +kernel) rfl
theorem r_L_state_3 : IOK WB AD SR FW TB md_L_state 3 (.iload_n 1, 0, 0, 0, []) := io_plain (by decide +kernel) rfl
theorem r_L_state_4 : IOK WB AD SR FW TB md_L_state 4 (.invokevirtual 79, 115, 11, 0, []) := io_virt (by decide +kernel) tb_X10_state (wb_6 77 rfl rfl) in_X10_state se_X10_state ⟨_, rfl, rfl⟩ pr_X10_state (by decide)
theorem r_L_state_12 : IOK WB AD SR FW TB md_L_state 12 (.astore_n 3, 0, 0, 0, []) := io_plain (by decide +kernel) rfl
theorem r_L_state_13 : IOK WB AD SR FW TB md_L_state 13 (.iconst 1, 0, 0, 0, []) := io_plain (by decide +kernel) rfl
theorem r_L_state_14 : IOK WB AD SR FW TB md_L_state 14 (.ireturn, 0, 0, 0, []) := io_plain (by decide +kernel) rfl
set_option maxRecDepth 100000 in
theorem ok_L_state_0 : ∀ q ∈ tl_L_state, IOK WB AD SR FW TB md_L_state q.1 q.2 := List.forall_mem_cons.mpr ⟨r_L_state_0, List.forall_mem_cons.mpr ⟨r_L_state_1, List.forall_mem_cons.mpr ⟨r_L_state_2, List.forall_mem_cons.mpr ⟨r_L_state_3, List.forall_mem_cons.mpr ⟨r_L_state_4, List.forall_mem_cons.mpr ⟨r_L_state_12, List.forall_mem_cons.mpr ⟨r_L_state_13, List.forall_mem_cons.mpr ⟨r_L_state_14, fun _ h => absurd h List.not_mem_nil⟩⟩⟩⟩⟩⟩⟩⟩
set_option maxRecDepth 100000 in
theorem tq_L_state_0 : tf_L_state = tl_L_state.map (fun q => (q.1, stepOf NPf md_L_state q.2)) := rfl
theorem ro_L_state : RowsOK (md_L_state, tl_L_state) tf_L_state := ⟨tq_L_state_0, ok_L_state_0⟩
theorem r_L_cameBy_0 : IOK WB AD SR FW TB md_L_cameBy 0 (.aload_n 2, 0, 0, 0, []) := io_plain (by decide +kernel) rfl
theorem r_L_cameBy_1 : IOK WB AD SR FW TB md_L_cameBy 1 (.iconst 0, 0, 0, 0, []) := io_plain (by decide +kernel) rfl
theorem r_L_cameBy_2 : IOK WB AD SR FW TB md_L_cameBy 2 (.aload_n 0, 0, 0, 0, []) := io_plain (by decide +kernel) rfl
theorem r_L_cameBy_3 : IOK WB AD SR FW TB md_L_cameBy 3 (.iload_n 1, 0, 0, 0, []) := io_plain (by decide +kernel) rfl
theorem r_L_cameBy_4 : IOK WB AD SR FW TB md_L_cameBy 4 (.invokevirtual 82, 116, 11, 0, []) := io_virt (by decide +kernel) tb_X10_cameBy (wb_6 85 rfl rfl) in_X10_cameBy se_X10_cameBy ⟨_, rfl, rfl⟩ pr_X10_cameBy (by decide)
theorem r_L_cameBy_12 : IOK WB AD SR FW TB md_L_cameBy 12 (.astore_n 3, 0, 0, 0, []) := io_plain (by decide +kernel) rfl
theorem r_L_cameBy_13 : IOK WB AD SR FW TB md_L_cameBy 13 (.iconst 1, 0, 0, 0, []) := io_plain (by decide +kernel) rfl
theorem r_L_cameBy_14 : IOK WB AD SR FW TB md_L_cameBy 14 (.ireturn, 0, 0, 0, []) := io_plain (by decide +kernel) rfl
set_option maxRecDepth 100000 in
theorem ok_L_cameBy_0 : ∀ q ∈ tl_L_cameBy, IOK WB AD SR FW TB md_L_cameBy q.1 q.2 := List.forall_mem_cons.mpr ⟨r_L_cameBy_0, List.forall_mem_cons.mpr ⟨r_L_cameBy_1, List.forall_mem_cons.mpr ⟨r_L_cameBy_2, List.forall_mem_cons.mpr ⟨r_L_cameBy_3, List.forall_mem_cons.mpr ⟨r_L_cameBy_4, List.forall_mem_cons.mpr ⟨r_L_cameBy_12, List.forall_mem_cons.mpr ⟨r_L_cameBy_13, List.forall_mem_cons.mpr ⟨r_L_cameBy_14, fun _ h => absurd h List.not_mem_nil⟩⟩⟩⟩⟩⟩⟩⟩
set_option maxRecDepth 100000 in
theorem tq_L_cameBy_0 : tf_L_cameBy = tl_L_cameBy.map (fun q => (q.1, stepOf NPf md_L_cameBy q.2)) := rfl
theorem ro_L_cameBy : RowsOK (md_L_cameBy, tl_L_cameBy) tf_L_cameBy := ⟨tq_L_cameBy_0, ok_L_cameBy_0⟩
theorem r_L_use_0 : IOK WB AD SR FW TB md_L_use 0 (.aload_n 2, 0, 0, 0, []) := io_plain (by decide +kernel) rfl
theorem r_L_use_1 : IOK WB AD SR FW TB md_L_use 1 (.iconst 0, 0, 0, 0, []) := io_plain (by decide +kernel) rfl
theorem r_L_use_2 : IOK WB AD SR FW TB md_L_use 2 (.aload_n 0, 0, 0, 0, []) := io_plain (by decide +kernel) rfl
theorem r_L_use_3 : IOK WB AD SR FW TB md_L_use 3 (.iload_n 1, 0, 0, 0, []) := io_plain (by decide +kernel) rfl
theorem r_L_use_4 : IOK WB AD SR FW TB md_L_use 4 (.invokevirtual 92, 117, 11, 0, []) := io_virt (by decide +kernel) tb_X10_use (wb_6 123 rfl rfl) in_X10_use se_X10_use ⟨_, rfl, rfl⟩ pr_X10_use (by decide)
theorem r_L_use_12 : IOK WB AD SR FW TB md_L_use 12 (.astore_n 3, 0, 0, 0, []) := io_plain (by decide +kernel) rfl
theorem r_L_use_13 : IOK WB AD SR FW TB md_L_use 13 (.iconst 1, 0, 0, 0, []) := io_plain (by decide +kernel) rfl
theorem r_L_use_14 : IOK WB AD SR FW TB md_L_use 14 (.ireturn, 0, 0, 0, []) := io_plain (by decide +kernel) rfl
set_option maxRecDepth 100000 in
theorem ok_L_use_0 : ∀ q ∈ tl_L_use, IOK WB AD SR FW TB md_L_use q.1 q.2 := List.forall_mem_cons.mpr ⟨r_L_use_0, List.forall_mem_cons.mpr ⟨r_L_use_1, List.forall_mem_cons.mpr ⟨r_L_use_2, List.forall_mem_cons.mpr ⟨r_L_use_3, List.forall_mem_cons.mpr ⟨r_L_use_4, List.forall_mem_cons.mpr ⟨r_L_use_12, List.forall_mem_cons.mpr ⟨r_L_use_13, List.forall_mem_cons.mpr ⟨r_L_use_14, fun _ h => absurd h List.not_mem_nil⟩⟩⟩⟩⟩⟩⟩⟩
set_option maxRecDepth 100000 in
theorem tq_L_use_0 : tf_L_use = tl_L_use.map (fun q => (q.1, stepOf NPf md_L_use q.2)) := rfl
theorem ro_L_use : RowsOK (md_L_use, tl_L_use) tf_L_use := ⟨tq_L_use_0, ok_L_use_0⟩
theorem r_L_joins_0 : IOK WB AD SR FW TB md_L_joins 0 (.aload_n 2, 0, 0, 0, []) := io_plain (by decide +kernel) rfl
theorem r_L_joins_1 : IOK WB AD SR FW TB md_L_joins 1 (.iconst 0, 0, 0, 0, []) := io_plain (by decide +kernel) rfl
theorem r_L_joins_2 : IOK WB AD SR FW TB md_L_joins 2 (.aload_n 0, 0, 0, 0, []) := io_plain (by decide +kernel) rfl
theorem r_L_joins_3 : IOK WB AD SR FW TB md_L_joins 3 (.iload_n 1, 0, 0, 0, []) := io_plain (by decide +kernel) rfl
theorem r_L_joins_4 : IOK WB AD SR FW TB md_L_joins 4 (.invokevirtual 111, 73, 11, 0, []) := io_virt (by decide +kernel) tb_X10_joins (wb_6 234 rfl rfl) in_X10_joins se_X10_joins ⟨_, rfl, rfl⟩ pr_X10_joins (by decide)
theorem r_L_joins_12 : IOK WB AD SR FW TB md_L_joins 12 (.astore_n 3, 0, 0, 0, []) := io_plain (by decide +kernel) rfl
theorem r_L_joins_13 : IOK WB AD SR FW TB md_L_joins 13 (.iconst 1, 0, 0, 0, []) := io_plain (by decide +kernel) rfl
theorem r_L_joins_14 : IOK WB AD SR FW TB md_L_joins 14 (.ireturn, 0, 0, 0, []) := io_plain (by decide +kernel) rfl
set_option maxRecDepth 100000 in
theorem ok_L_joins_0 : ∀ q ∈ tl_L_joins, IOK WB AD SR FW TB md_L_joins q.1 q.2 := List.forall_mem_cons.mpr ⟨r_L_joins_0, List.forall_mem_cons.mpr ⟨r_L_joins_1, List.forall_mem_cons.mpr ⟨r_L_joins_2, List.forall_mem_cons.mpr ⟨r_L_joins_3, List.forall_mem_cons.mpr ⟨r_L_joins_4, List.forall_mem_cons.mpr ⟨r_L_joins_12, List.forall_mem_cons.mpr ⟨r_L_joins_13, List.forall_mem_cons.mpr ⟨r_L_joins_14, fun _ h => absurd h List.not_mem_nil⟩⟩⟩⟩⟩⟩⟩⟩
set_option maxRecDepth 100000 in
theorem tq_L_joins_0 : tf_L_joins = tl_L_joins.map (fun q => (q.1, stepOf NPf md_L_joins q.2)) := rfl
theorem ro_L_joins : RowsOK (md_L_joins, tl_L_joins) tf_L_joins := ⟨tq_L_joins_0, ok_L_joins_0⟩
theorem r_L_descends_0 : IOK WB AD SR FW TB md_L_descends 0 (.aload_n 2, 0, 0, 0, []) := io_plain (by decide +kernel) rfl
theorem r_L_descends_1 : IOK WB AD SR FW TB md_L_descends 1 (.iconst 0, 0, 0, 0, []) := io_plain (by decide +kernel) rfl
theorem r_L_descends_2 : IOK WB AD SR FW TB md_L_descends 2 (.aload_n 0, 0, 0, 0, []) := io_plain (by decide +kernel) rfl
theorem r_L_descends_3 : IOK WB AD SR FW TB md_L_descends 3 (.iload_n 1, 0, 0, 0, []) := io_plain (by decide +kernel) rfl
theorem r_L_descends_4 : IOK WB AD SR FW TB md_L_descends 4 (.invokevirtual 117, 119, 11, 0, []) := io_virt (by decide +kernel) tb_X10_descends (wb_7 11 rfl rfl) in_X10_descends se_X10_descends ⟨_, rfl, rfl⟩ pr_X10_descends (by decide)
theorem r_L_descends_19 : IOK WB AD SR FW TB md_L_descends 19 (.astore_n 3, 0, 0, 0, []) := io_plain (by decide +kernel) rfl
theorem r_L_descends_20 : IOK WB AD SR FW TB md_L_descends 20 (.iconst 1, 0, 0, 0, []) := io_plain (by decide +kernel) rfl
theorem r_L_descends_21 : IOK WB AD SR FW TB md_L_descends 21 (.ireturn, 0, 0, 0, []) := io_plain (by decide +kernel) rfl
set_option maxRecDepth 100000 in
theorem ok_L_descends_0 : ∀ q ∈ tl_L_descends, IOK WB AD SR FW TB md_L_descends q.1 q.2 := List.forall_mem_cons.mpr ⟨r_L_descends_0, List.forall_mem_cons.mpr ⟨r_L_descends_1, List.forall_mem_cons.mpr ⟨r_L_descends_2, List.forall_mem_cons.mpr ⟨r_L_descends_3, List.forall_mem_cons.mpr ⟨r_L_descends_4, List.forall_mem_cons.mpr ⟨r_L_descends_19, List.forall_mem_cons.mpr ⟨r_L_descends_20, List.forall_mem_cons.mpr ⟨r_L_descends_21, fun _ h => absurd h List.not_mem_nil⟩⟩⟩⟩⟩⟩⟩⟩
set_option maxRecDepth 100000 in
theorem tq_L_descends_0 : tf_L_descends = tl_L_descends.map (fun q => (q.1, stepOf NPf md_L_descends q.2)) := rfl
theorem ro_L_descends : RowsOK (md_L_descends, tl_L_descends) tf_L_descends := ⟨tq_L_descends_0, ok_L_descends_0⟩
theorem r_L_copy_0 : IOK WB AD SR FW TB md_L_copy 0 (.aload_n 2, 0, 0, 0, []) := io_plain (by decide +kernel) rfl
theorem r_L_copy_1 : IOK WB AD SR FW TB md_L_copy 1 (.iconst 0, 0, 0, 0, []) := io_plain (by decide +kernel) rfl
theorem r_L_copy_2 : IOK WB AD SR FW TB md_L_copy 2 (.aload_n 0, 0, 0, 0, []) := io_plain (by decide +kernel) rfl
theorem r_L_copy_3 : IOK WB AD SR FW TB md_L_copy 3 (.iload_n 1, 0, 0, 0, []) := io_plain (by decide +kernel) rfl
theorem r_L_copy_4 : IOK WB AD SR FW TB md_L_copy 4 (.invokevirtual 123, 120, 11, 0, []) := io_virt (by decide +kernel) tb_X10_copy (wb_7 29 rfl rfl) in_X10_copy se_X10_copy ⟨_, rfl, rfl⟩ pr_X10_copy (by decide)
theorem r_L_copy_12 : IOK WB AD SR FW TB md_L_copy 12 (.astore_n 3, 0, 0, 0, []) := io_plain (by decide +kernel) rfl
theorem r_L_copy_13 : IOK WB AD SR FW TB md_L_copy 13 (.iconst 1, 0, 0, 0, []) := io_plain (by decide +kernel) rfl
theorem r_L_copy_14 : IOK WB AD SR FW TB md_L_copy 14 (.ireturn, 0, 0, 0, []) := io_plain (by decide +kernel) rfl
set_option maxRecDepth 100000 in
theorem ok_L_copy_0 : ∀ q ∈ tl_L_copy, IOK WB AD SR FW TB md_L_copy q.1 q.2 := List.forall_mem_cons.mpr ⟨r_L_copy_0, List.forall_mem_cons.mpr ⟨r_L_copy_1, List.forall_mem_cons.mpr ⟨r_L_copy_2, List.forall_mem_cons.mpr ⟨r_L_copy_3, List.forall_mem_cons.mpr ⟨r_L_copy_4, List.forall_mem_cons.mpr ⟨r_L_copy_12, List.forall_mem_cons.mpr ⟨r_L_copy_13, List.forall_mem_cons.mpr ⟨r_L_copy_14, fun _ h => absurd h List.not_mem_nil⟩⟩⟩⟩⟩⟩⟩⟩
set_option maxRecDepth 100000 in
theorem tq_L_copy_0 : tf_L_copy = tl_L_copy.map (fun q => (q.1, stepOf NPf md_L_copy q.2)) := rfl
theorem ro_L_copy : RowsOK (md_L_copy, tl_L_copy) tf_L_copy := ⟨tq_L_copy_0, ok_L_copy_0⟩
theorem r_X10_hasPattern_0 : IOK WB AD SR FW TB md_X10_hasPattern 0 (.aload_n 0, 0, 0, 0, []) := io_plain (by decide +kernel) rfl
theorem r_X10_hasPattern_1 : IOK WB AD SR FW TB md_X10_hasPattern 1 (.getfield 160, 11, 8, 0, []) := io_get (by decide +kernel) fo_RX10_160
theorem r_X10_hasPattern_4 : IOK WB AD SR FW TB md_X10_hasPattern 4 (.ifCond .le 21, 0, 0, 0, []) := io_plain (by decide +kernel) rfl
theorem r_X10_hasPattern_25 : IOK WB AD SR FW TB md_X10_hasPattern 25 (.iconst 0, 0, 0, 0, []) := io_plain (by decide +kernel) rfl
theorem r_X10_hasPattern_26 : IOK WB AD SR FW TB md_X10_hasPattern 26 (.ireturn, 0, 0, 0, []) := io_plain (by decide +kernel) rfl
set_option maxRecDepth 100000 in
theorem ok_X10_hasPattern_0 : ∀ q ∈ tl_X10_hasPattern, IOK WB AD SR FW TB md_X10_hasPattern q.1 q.2 := List.forall_mem_cons.mpr ⟨r_X10_hasPattern_0, List.forall_mem_cons.mpr ⟨r_X10_hasPattern_1, List.forall_mem_cons.mpr ⟨r_X10_hasPattern_4, List.forall_mem_cons.mpr ⟨r_X10_hasPattern_25, List.forall_mem_cons.mpr ⟨r_X10_hasPattern_26, fun _ h => absurd h List.not_mem_nil⟩⟩⟩⟩⟩
set_option maxRecDepth 100000 in
theorem tq_X10_hasPattern_0 : tf_X10_hasPattern = tl_X10_hasPattern.map (fun q => (q.1, stepOf NPf md_X10_hasPattern q.2)) := rfl
theorem ro_X10_hasPattern : RowsOK (md_X10_hasPattern, tl_X10_hasPattern) tf_X10_hasPattern := ⟨tq_X10_hasPattern_0, ok_X10_hasPattern_0⟩
theorem r_X17_test_0 : IOK WB AD SR FW TB md_X17_test 0 (.aload_n 0, 0, 0, 0, []) := io_plain (by decide +kernel) rfl
theorem r_X17_test_1 : IOK WB AD SR FW TB md_X17_test 1 (.aload_n 0, 0, 0, 0, []) := io_plain (by decide +kernel) rfl
theorem r_X17_test_2 : IOK WB AD SR FW TB md_X17_test 2 (.getfield 44, 18, 13, 2, []) := io_get (by decide +kernel) fo_RX17_44
theorem r_X17_test_5 : IOK WB AD SR FW TB md_X17_test 5 (.invokeinterface 351 1, 43, 0, 0, []) := io_face (by decide +kernel) tb_Jx4a65c_isEmpty_aae02 (List.mem_of_getElem? (i := 2) rfl) (wb_8 9 rfl rfl) in_Jx4a65c_isEmpty_aae02 (wb_8 13 rfl rfl) rfl rfl rfl pr_Jx4a65c_isEmpty_aae02 (by decide)
theorem r_X17_test_10 : IOK WB AD SR FW TB md_X17_test 10 (.ifCond .ne 27, 0, 0, 0, []) := io_plain (by decide +kernel) rfl
theorem r_X17_test_37 : IOK WB AD SR FW TB md_X17_test 37 (.iconst 1, 0, 0, 0, []) := io_plain (by decide +kernel) rfl
theorem r_X17_test_38 : IOK WB AD SR FW TB md_X17_test 38 (.goto 4, 0, 0, 0, []) := io_plain (by decide +kernel) rfl
theorem r_X17_test_42 : IOK WB AD SR FW TB md_X17_test 42 (.putfield 114, 18, 0, 0, []) := io_put (by decide +kernel) fo_RX17_114 po_RX17_0_18_0_0
theorem r_X17_test_45 : IOK WB AD SR FW TB md_X17_test 45 (.aload_n 0, 0, 0, 0, []) := io_plain (by decide +kernel) rfl
theorem r_X17_test_46 : IOK WB AD SR FW TB md_X17_test 46 (.getfield 114, 18, 0, 0, []) := io_get (by decide +kernel) fo_RX17_114
theorem r_X17_test_49 : IOK WB AD SR FW TB md_X17_test 49 (.ifCond .le 7, 0, 0, 0, []) := io_plain (by decide +kernel) rfl
theorem r_X17_test_52 : IOK WB AD SR FW TB md_X17_test 52 (.iconst 0, 0, 0, 0, []) := io_plain (by decide +kernel) rfl
theorem r_X17_test_53 : IOK WB AD SR FW TB md_X17_test 53 (.goto 22, 0, 0, 0, []) := io_plain (by decide +kernel) rfl
theorem r_X17_test_75 : IOK WB AD SR FW TB md_X17_test 75 (.ireturn, 0, 0, 0, []) := io_plain (by decide +kernel) rfl
set_option maxRecDepth 100000 in
theorem ok_X17_test_0 : ∀ q ∈ tl_X17_test, IOK WB AD SR FW TB md_X17_test q.1 q.2 := List.forall_mem_cons.mpr ⟨r_X17_test_0, List.forall_mem_cons.mpr ⟨r_X17_test_1, List.forall_mem_cons.mpr ⟨r_X17_test_2, List.forall_mem_cons.mpr ⟨r_X17_test_5, List.forall_mem_cons.mpr ⟨r_X17_test_10, List.forall_mem_cons.mpr ⟨r_X17_test_37, List.forall_mem_cons.mpr ⟨r_X17_test_38, List.forall_mem_cons.mpr ⟨r_X17_test_42, List.forall_mem_cons.mpr ⟨r_X17_test_45, List.forall_mem_cons.mpr ⟨r_X17_test_46, List.forall_mem_cons.mpr ⟨r_X17_test_49, List.forall_mem_cons.mpr ⟨r_X17_test_52, List.forall_mem_cons.mpr ⟨r_X17_test_53, List.forall_mem_cons.mpr ⟨r_X17_test_75, fun _ h => absurd h List.not_mem_nil⟩⟩⟩⟩⟩⟩⟩⟩⟩⟩⟩⟩⟩⟩
set_option maxRecDepth 100000 in
theorem tq_X17_test_0 : tf_X17_test = tl_X17_test.map (fun q => (q.1, stepOf NPf md_X17_test q.2)) := rfl
theorem ro_X17_test : RowsOK (md_X17_test, tl_X17_test) tf_X17_test := ⟨tq_X17_test_0, ok_X17_test_0⟩
theorem r_X17_sortOf_0 : IOK WB AD SR FW TB md_X17_sortOf 0 (.aload_n 0, 0, 0, 0, []) := io_plain (by decide +kernel) rfl
theorem r_X17_sortOf_1 : IOK WB AD SR FW TB md_X17_sortOf 1 (.aload_n 0, 0, 0, 0, []) := io_plain (by decide +kernel) rfl
theorem r_X17_sortOf_2 : IOK WB AD SR FW TB md_X17_sortOf 2 (.getfield 44, 18, 13, 2, []) := io_get (by decide +kernel) fo_RX17_44
theorem r_X17_sortOf_5 : IOK WB AD SR FW TB md_X17_sortOf 5 (.invokeinterface 351 1, 43, 0, 0, []) := io_face (by decide +kernel) tb_Jx4a65c_isEmpty_aae02 (List.mem_of_getElem? (i := 2) rfl) (wb_8 9 rfl rfl) in_Jx4a65c_isEmpty_aae02 (wb_8 13 rfl rfl) rfl rfl rfl pr_Jx4a65c_isEmpty_aae02 (by decide)
theorem r_X17_sortOf_10 : IOK WB AD SR FW TB md_X17_sortOf 10 (.ifCond .eq 7, 0, 0, 0, []) := io_plain (by decide +kernel) rfl
theorem r_X17_sortOf_13 : IOK WB AD SR FW TB md_X17_sortOf 13 (.iconst 1, 0, 0, 0, []) := io_plain (by decide +kernel) rfl
theorem r_X17_sortOf_14 : IOK WB AD SR FW TB md_X17_sortOf 14 (.goto 4, 0, 0, 0, []) := io_plain (by decide +kernel) rfl
theorem r_X17_sortOf_18 : IOK WB AD SR FW TB md_X17_sortOf 18 (.putfield 114, 18, 0, 0, []) := io_put (by decide +kernel) fo_RX17_114 po_RX17_0_18_0_0
theorem r_X17_sortOf_21 : IOK WB AD SR FW TB md_X17_sortOf 21 (.aload_n 0, 0, 0, 0, []) := io_plain (by decide +kernel) rfl
theorem r_X17_sortOf_22 : IOK WB AD SR FW TB md_X17_sortOf 22 (.getfield 114, 18, 0, 0, []) := io_get (by decide +kernel) fo_RX17_114
theorem r_X17_sortOf_25 : IOK WB AD SR FW TB md_X17_sortOf 25 (.ifCond .le 7, 0, 0, 0, []) := io_plain (by decide +kernel) rfl
theorem r_X17_sortOf_28 : IOK WB AD SR FW TB md_X17_sortOf 28 (.iconst 0, 0, 0, 0, []) := io_plain (by decide +kernel) rfl
theorem r_X17_sortOf_29 : IOK WB AD SR FW TB md_X17_sortOf 29 (.goto 11, 0, 0, 0, []) := io_plain (by decide +kernel) rfl
theorem r_X17_sortOf_40 : IOK WB AD SR FW TB md_X17_sortOf 40 (.ireturn, 0, 0, 0, []) := io_plain (by decide +kernel) rfl
set_option maxRecDepth 100000 in
theorem ok_X17_sortOf_0 : ∀ q ∈ tl_X17_sortOf, IOK WB AD SR FW TB md_X17_sortOf q.1 q.2 := List.forall_mem_cons.mpr ⟨r_X17_sortOf_0, List.forall_mem_cons.mpr ⟨r_X17_sortOf_1, List.forall_mem_cons.mpr ⟨r_X17_sortOf_2, List.forall_mem_cons.mpr ⟨r_X17_sortOf_5, List.forall_mem_cons.mpr ⟨r_X17_sortOf_10, List.forall_mem_cons.mpr ⟨r_X17_sortOf_13, List.forall_mem_cons.mpr ⟨r_X17_sortOf_14, List.forall_mem_cons.mpr ⟨r_X17_sortOf_18, List.forall_mem_cons.mpr ⟨r_X17_sortOf_21, List.forall_mem_cons.mpr ⟨r_X17_sortOf_22, List.forall_mem_cons.mpr ⟨r_X17_sortOf_25, List.forall_mem_cons.mpr ⟨r_X17_sortOf_28, List.forall_mem_cons.mpr ⟨r_X17_sortOf_29, List.forall_mem_cons.mpr ⟨r_X17_sortOf_40, fun _ h => absurd h List.not_mem_nil⟩⟩⟩⟩⟩⟩⟩⟩⟩⟩⟩⟩⟩⟩
set_option maxRecDepth 100000 in
theorem tq_X17_sortOf_0 : tf_X17_sortOf = tl_X17_sortOf.map (fun q => (q.1, stepOf NPf md_X17_sortOf q.2)) := rfl
theorem ro_X17_sortOf : RowsOK (md_X17_sortOf, tl_X17_sortOf) tf_X17_sortOf := ⟨tq_X17_sortOf_0, ok_X17_sortOf_0⟩
theorem r_X17_search_0 : IOK WB AD SR FW TB md_X17_search 0 (.aload_n 0, 0, 0, 0, []) := io_plain (by decide +kernel) rfl
theorem r_X17_search_1 : IOK WB AD SR FW TB md_X17_search 1 (.aload_n 0, 0, 0, 0, []) := io_plain (by decide +kernel) rfl
theorem r_X17_search_2 : IOK WB AD SR FW TB md_X17_search 2 (.getfield 44, 18, 13, 2, []) := io_get (by decide +kernel) fo_RX17_44
theorem r_X17_search_5 : IOK WB AD SR FW TB md_X17_search 5 (.invokeinterface 351 1, 43, 0, 0, []) := io_face (by decide +kernel) tb_Jx4a65c_isEmpty_aae02 (List.mem_of_getElem? (i := 2) rfl) (wb_8 9 rfl rfl) in_Jx4a65c_isEmpty_aae02 (wb_8 13 rfl rfl) rfl rfl rfl pr_Jx4a65c_isEmpty_aae02 (by decide)
theorem r_X17_search_10 : IOK WB AD SR FW TB md_X17_search 10 (.ifCond .eq 7, 0, 0, 0, []) := io_plain (by decide +kernel) rfl
theorem r_X17_search_13 : IOK WB AD SR FW TB md_X17_search 13 (.iconst 1, 0, 0, 0, []) := io_plain (by decide +kernel) rfl
theorem r_X17_search_14 : IOK WB AD SR FW TB md_X17_search 14 (.goto 4, 0, 0, 0, []) := io_plain (by decide +kernel) rfl
theorem r_X17_search_18 : IOK WB AD SR FW TB md_X17_search 18 (.putfield 114, 18, 0, 0, []) := io_put (by decide +kernel) fo_RX17_114 po_RX17_0_18_0_0
theorem r_X17_search_21 : IOK WB AD SR FW TB md_X17_search 21 (.aload_n 0, 0, 0, 0, []) := io_plain (by decide +kernel) rfl
theorem r_X17_search_22 : IOK WB AD SR FW TB md_X17_search 22 (.getfield 114, 18, 0, 0, []) := io_get (by decide +kernel) fo_RX17_114
theorem r_X17_search_25 : IOK WB AD SR FW TB md_X17_search 25 (.ifCond .le 5, 0, 0, 0, []) := io_plain (by decide +kernel) rfl
theorem r_X17_search_28 : IOK WB AD SR FW TB md_X17_search 28 (.iconst 0, 0, 0, 0, []) := io_plain (by decide +kernel) rfl
theorem r_X17_search_29 : IOK WB AD SR FW TB md_X17_search 29 (.ireturn, 0, 0, 0, []) := io_plain (by decide +kernel) rfl
set_option maxRecDepth 100000 in
theorem ok_X17_search_0 : ∀ q ∈ tl_X17_search, IOK WB AD SR FW TB md_X17_search q.1 q.2 := List.forall_mem_cons.mpr ⟨r_X17_search_0, List.forall_mem_cons.mpr ⟨r_X17_search_1, List.forall_mem_cons.mpr ⟨r_X17_search_2, List.forall_mem_cons.mpr ⟨r_X17_search_5, List.forall_mem_cons.mpr ⟨r_X17_search_10, List.forall_mem_cons.mpr ⟨r_X17_search_13, List.forall_mem_cons.mpr ⟨r_X17_search_14, List.forall_mem_cons.mpr ⟨r_X17_search_18, List.forall_mem_cons.mpr ⟨r_X17_search_21, List.forall_mem_cons.mpr ⟨r_X17_search_22, List.forall_mem_cons.mpr ⟨r_X17_search_25, List.forall_mem_cons.mpr ⟨r_X17_search_28, List.forall_mem_cons.mpr ⟨r_X17_search_29, fun _ h => absurd h List.not_mem_nil⟩⟩⟩⟩⟩⟩⟩⟩⟩⟩⟩⟩⟩
set_option maxRecDepth 100000 in
theorem tq_X17_search_0 : tf_X17_search = tl_X17_search.map (fun q => (q.1, stepOf NPf md_X17_search q.2)) := rfl
theorem ro_X17_search : RowsOK (md_X17_search, tl_X17_search) tf_X17_search := ⟨tq_X17_search_0, ok_X17_search_0⟩
theorem r_X17_finds_0 : IOK WB AD SR FW TB md_X17_finds 0 (.aload_n 0, 0, 0, 0, []) := io_plain (by decide +kernel) rfl
theorem r_X17_finds_1 : IOK WB AD SR FW TB md_X17_finds 1 (.aload_n 0, 0, 0, 0, []) := io_plain (by decide +kernel) rfl
theorem r_X17_finds_2 : IOK WB AD SR FW TB md_X17_finds 2 (.getfield 44, 18, 13, 2, []) := io_get (by decide +kernel) fo_RX17_44
theorem r_X17_finds_5 : IOK WB AD SR FW TB md_X17_finds 5 (.invokeinterface 351 1, 43, 0, 0, []) := io_face (by decide +kernel) tb_Jx4a65c_isEmpty_aae02 (List.mem_of_getElem? (i := 2) rfl) (wb_8 9 rfl rfl) in_Jx4a65c_isEmpty_aae02 (wb_8 13 rfl rfl) rfl rfl rfl pr_Jx4a65c_isEmpty_aae02 (by decide)
theorem r_X17_finds_10 : IOK WB AD SR FW TB md_X17_finds 10 (.ifCond .ne 13, 0, 0, 0, []) := io_plain (by decide +kernel) rfl
theorem r_X17_finds_23 : IOK WB AD SR FW TB md_X17_finds 23 (.iconst 2, 0, 0, 0, []) := io_plain (by decide +kernel) rfl
theorem r_X17_finds_24 : IOK WB AD SR FW TB md_X17_finds 24 (.goto 12, 0, 0, 0, []) := io_plain (by decide +kernel) rfl
theorem r_X17_finds_36 : IOK WB AD SR FW TB md_X17_finds 36 (.putfield 114, 18, 0, 0, []) := io_put (by decide +kernel) fo_RX17_114 po_RX17_0_18_0_0
theorem r_X17_finds_39 : IOK WB AD SR FW TB md_X17_finds 39 (.aload_n 0, 0, 0, 0, []) := io_plain (by decide +kernel) rfl
theorem r_X17_finds_40 : IOK WB AD SR FW TB md_X17_finds 40 (.getfield 114, 18, 0, 0, []) := io_get (by decide +kernel) fo_RX17_114
theorem r_X17_finds_43 : IOK WB AD SR FW TB md_X17_finds 43 (.ifCond .le 5, 0, 0, 0, []) := io_plain (by decide +kernel) rfl
theorem r_X17_finds_46 : IOK WB AD SR FW TB md_X17_finds 46 (.iconst 0, 0, 0, 0, []) := io_plain (by decide +kernel) rfl
theorem r_X17_finds_47 : IOK WB AD SR FW TB md_X17_finds 47 (.ireturn, 0, 0, 0, []) := io_plain (by decide +kernel) rfl
set_option maxRecDepth 100000 in
theorem ok_X17_finds_0 : ∀ q ∈ tl_X17_finds, IOK WB AD SR FW TB md_X17_finds q.1 q.2 := List.forall_mem_cons.mpr ⟨r_X17_finds_0, List.forall_mem_cons.mpr ⟨r_X17_finds_1, List.forall_mem_cons.mpr ⟨r_X17_finds_2, List.forall_mem_cons.mpr ⟨r_X17_finds_5, List.forall_mem_cons.mpr ⟨r_X17_finds_10, List.forall_mem_cons.mpr ⟨r_X17_finds_23, List.forall_mem_cons.mpr ⟨r_X17_finds_24, List.forall_mem_cons.mpr ⟨r_X17_finds_36, List.forall_mem_cons.mpr ⟨r_X17_finds_39, List.forall_mem_cons.mpr ⟨r_X17_finds_40, List.forall_mem_cons.mpr ⟨r_X17_finds_43, List.forall_mem_cons.mpr ⟨r_X17_finds_46, List.forall_mem_cons.mpr ⟨r_X17_finds_47, fun _ h => absurd h List.not_mem_nil⟩⟩⟩⟩⟩⟩⟩⟩⟩⟩⟩⟩⟩
set_option maxRecDepth 100000 in
theorem tq_X17_finds_0 : tf_X17_finds = tl_X17_finds.map (fun q => (q.1, stepOf NPf md_X17_finds q.2)) := rfl
theorem ro_X17_finds : RowsOK (md_X17_finds, tl_X17_finds) tf_X17_finds := ⟨tq_X17_finds_0, ok_X17_finds_0⟩
theorem r_X17_run_0 : IOK WB AD SR FW TB md_X17_run 0 (.aload_n 0, 0, 0, 0, []) := io_plain (by decide +kernel) rfl
theorem r_X17_run_1 : IOK WB AD SR FW TB md_X17_run 1 (.aload_n 0, 0, 0, 0, []) := io_plain (by decide +kernel) rfl
theorem r_X17_run_2 : IOK WB AD SR FW TB md_X17_run 2 (.getfield 44, 18, 13, 2, []) := io_get (by decide +kernel) fo_RX17_44
theorem r_X17_run_5 : IOK WB AD SR FW TB md_X17_run 5 (.invokeinterface 351 1, 43, 0, 0, []) := io_face (by decide +kernel) tb_Jx4a65c_isEmpty_aae02 (List.mem_of_getElem? (i := 2) rfl) (wb_8 9 rfl rfl) in_Jx4a65c_isEmpty_aae02 (wb_8 13 rfl rfl) rfl rfl rfl pr_Jx4a65c_isEmpty_aae02 (by decide)
theorem r_X17_run_10 : IOK WB AD SR FW TB md_X17_run 10 (.ifCond .ne 15, 0, 0, 0, []) := io_plain (by decide +kernel) rfl
theorem r_X17_run_25 : IOK WB AD SR FW TB md_X17_run 25 (.iconst 1, 0, 0, 0, []) := io_plain (by decide +kernel) rfl
theorem r_X17_run_26 : IOK WB AD SR FW TB md_X17_run 26 (.goto 4, 0, 0, 0, []) := io_plain (by decide +kernel) rfl
theorem r_X17_run_30 : IOK WB AD SR FW TB md_X17_run 30 (.putfield 114, 18, 0, 0, []) := io_put (by decide +kernel) fo_RX17_114 po_RX17_0_18_0_0
theorem r_X17_run_33 : IOK WB AD SR FW TB md_X17_run 33 (.aload_n 0, 0, 0, 0, []) := io_plain (by decide +kernel) rfl
theorem r_X17_run_34 : IOK WB AD SR FW TB md_X17_run 34 (.getfield 114, 18, 0, 0, []) := io_get (by decide +kernel) fo_RX17_114
theorem r_X17_run_37 : IOK WB AD SR FW TB md_X17_run 37 (.ifCond .le 5, 0, 0, 0, []) := io_plain (by decide +kernel) rfl
theorem r_X17_run_40 : IOK WB AD SR FW TB md_X17_run 40 (.iconst 0, 0, 0, 0, []) := io_plain (by decide +kernel) rfl
theorem r_X17_run_41 : IOK WB AD SR FW TB md_X17_run 41 (.ireturn, 0, 0, 0, []) := io_plain (by decide +kernel) rfl
set_option maxRecDepth 100000 in
theorem ok_X17_run_0 : ∀ q ∈ tl_X17_run, IOK WB AD SR FW TB md_X17_run q.1 q.2 := List.forall_mem_cons.mpr ⟨r_X17_run_0, List.forall_mem_cons.mpr ⟨r_X17_run_1, List.forall_mem_cons.mpr ⟨r_X17_run_2, List.forall_mem_cons.mpr ⟨r_X17_run_5, List.forall_mem_cons.mpr ⟨r_X17_run_10, List.forall_mem_cons.mpr ⟨r_X17_run_25, List.forall_mem_cons.mpr ⟨r_X17_run_26, List.forall_mem_cons.mpr ⟨r_X17_run_30, List.forall_mem_cons.mpr ⟨r_X17_run_33, List.forall_mem_cons.mpr ⟨r_X17_run_34, List.forall_mem_cons.mpr ⟨r_X17_run_37, List.forall_mem_cons.mpr ⟨r_X17_run_40, List.forall_mem_cons.mpr ⟨r_X17_run_41, fun _ h => absurd h List.not_mem_nil⟩⟩⟩⟩⟩⟩⟩⟩⟩⟩⟩⟩⟩
set_option maxRecDepth 100000 in
theorem tq_X17_run_0 : tf_X17_run = tl_X17_run.map (fun q => (q.1, stepOf NPf md_X17_run q.2)) := rfl
theorem ro_X17_run : RowsOK (md_X17_run, tl_X17_run) tf_X17_run := ⟨tq_X17_run_0, ok_X17_run_0⟩
theorem r_X17_code_0 : IOK WB AD SR FW TB md_X17_code 0 (.aload_n 0, 0, 0, 0, []) := io_plain (by decide +kernel) rfl
theorem r_X17_code_1 : IOK WB AD SR FW TB md_X17_code 1 (.aload_n 0, 0, 0, 0, []) := io_plain (by decide +kernel) rfl
theorem r_X17_code_2 : IOK WB AD SR FW TB md_X17_code 2 (.getfield 44, 18, 13, 2, []) := io_get (by decide +kernel) fo_RX17_44
theorem r_X17_code_5 : IOK WB AD SR FW TB md_X17_code 5 (.invokeinterface 351 1, 43, 0, 0, []) := io_face (by decide +kernel) tb_Jx4a65c_isEmpty_aae02 (List.mem_of_getElem? (i := 2) rfl) (wb_8 9 rfl rfl) in_Jx4a65c_isEmpty_aae02 (wb_8 13 rfl rfl) rfl rfl rfl pr_Jx4a65c_isEmpty_aae02 (by decide)
theorem r_X17_code_10 : IOK WB AD SR FW TB md_X17_code 10 (.ifCond .eq 7, 0, 0, 0, []) := io_plain (by decide +kernel) rfl
theorem r_X17_code_13 : IOK WB AD SR FW TB md_X17_code 13 (.iconst 2, 0, 0, 0, []) := io_plain (by decide +kernel) rfl
theorem r_X17_code_14 : IOK WB AD SR FW TB md_X17_code 14 (.goto 25, 0, 0, 0, []) := io_plain (by decide +kernel) rfl
theorem r_X17_code_39 : IOK WB AD SR FW TB md_X17_code 39 (.putfield 114, 18, 0, 0, []) := io_put (by decide +kernel) fo_RX17_114 po_RX17_0_18_0_0
theorem r_X17_code_42 : IOK WB AD SR FW TB md_X17_code 42 (.aload_n 0, 0, 0, 0, []) := io_plain (by decide +kernel) rfl
theorem r_X17_code_43 : IOK WB AD SR FW TB md_X17_code 43 (.getfield 114, 18, 0, 0, []) := io_get (by decide +kernel) fo_RX17_114
theorem r_X17_code_46 : IOK WB AD SR FW TB md_X17_code 46 (.ifCond .le 5, 0, 0, 0, []) := io_plain (by decide +kernel) rfl
theorem r_X17_code_49 : IOK WB AD SR FW TB md_X17_code 49 (.iconst 0, 0, 0, 0, []) := io_plain (by decide +kernel) rfl
theorem r_X17_code_50 : IOK WB AD SR FW TB md_X17_code 50 (.ireturn, 0, 0, 0, []) := io_plain (by decide +kernel) rfl
set_option maxRecDepth 100000 in
theorem ok_X17_code_0 : ∀ q ∈ tl_X17_code, IOK WB AD SR FW TB md_X17_code q.1 q.2 := List.forall_mem_cons.mpr ⟨r_X17_code_0, List.forall_mem_cons.mpr ⟨r_X17_code_1, List.forall_mem_cons.mpr ⟨r_X17_code_2, List.forall_mem_cons.mpr ⟨r_X17_code_5, List.forall_mem_cons.mpr ⟨r_X17_code_10, List.forall_mem_cons.mpr ⟨r_X17_code_13, List.forall_mem_cons.mpr ⟨r_X17_code_14, List.forall_mem_cons.mpr ⟨r_X17_code_39, List.forall_mem_cons.mpr ⟨r_X17_code_42, List.forall_mem_cons.mpr ⟨r_X17_code_43, List.forall_mem_cons.mpr ⟨r_X17_code_46, List.forall_mem_cons.mpr ⟨r_X17_code_49, List.forall_mem_cons.mpr ⟨r_X17_code_50, fun _ h => absurd h List.not_mem_nil⟩⟩⟩⟩⟩⟩⟩⟩⟩⟩⟩⟩⟩
set_option maxRecDepth 100000 in
theorem tq_X17_code_0 : tf_X17_code = tl_X17_code.map (fun q => (q.1, stepOf NPf md_X17_code q.2)) := rfl
theorem ro_X17_code : RowsOK (md_X17_code, tl_X17_code) tf_X17_code := ⟨tq_X17_code_0, ok_X17_code_0⟩
theorem r_X17_reduce_0 : IOK WB AD SR FW TB md_X17_reduce 0 (.aload_n 0, 0, 0, 0, []) := io_plain (by decide +kernel) rfl
theorem r_X17_reduce_1 : IOK WB AD SR FW TB md_X17_reduce 1 (.aload_n 0, 0, 0, 0, []) := io_plain (by decide +kernel) rfl
theorem r_X17_reduce_2 : IOK WB AD SR FW TB md_X17_reduce 2 (.getfield 44, 18, 13, 2, []) := io_get (by decide +kernel) fo_RX17_44
theorem r_X17_reduce_5 : IOK WB AD SR FW TB md_X17_reduce 5 (.invokeinterface 351 1, 43, 0, 0, []) := io_face (by decide +kernel) tb_Jx4a65c_isEmpty_aae02 (List.mem_of_getElem? (i := 2) rfl) (wb_8 9 rfl rfl) in_Jx4a65c_isEmpty_aae02 (wb_8 13 rfl rfl) rfl rfl rfl pr_Jx4a65c_isEmpty_aae02 (by decide)
theorem r_X17_reduce_10 : IOK WB AD SR FW TB md_X17_reduce 10 (.ifCond .eq 7, 0, 0, 0, []) := io_plain (by decide +kernel) rfl
theorem r_X17_reduce_13 : IOK WB AD SR FW TB md_X17_reduce 13 (.iconst 1, 0, 0, 0, []) := io_plain (by decide +kernel) rfl
theorem r_X17_reduce_14 : IOK WB AD SR FW TB md_X17_reduce 14 (.goto 4, 0, 0, 0, []) := io_plain (by decide +kernel) rfl
theorem r_X17_reduce_18 : IOK WB AD SR FW TB md_X17_reduce 18 (.putfield 114, 18, 0, 0, []) := io_put (by decide +kernel) fo_RX17_114 po_RX17_0_18_0_0
theorem r_X17_reduce_21 : IOK WB AD SR FW TB md_X17_reduce 21 (.aload_n 0, 0, 0, 0, []) := io_plain (by decide +kernel) rfl
theorem r_X17_reduce_22 : IOK WB AD SR FW TB md_X17_reduce 22 (.getfield 114, 18, 0, 0, []) := io_get (by decide +kernel) fo_RX17_114
theorem r_X17_reduce_25 : IOK WB AD SR FW TB md_X17_reduce 25 (.ifCond .le 5, 0, 0, 0, []) := io_plain (by decide +kernel) rfl
theorem r_X17_reduce_28 : IOK WB AD SR FW TB md_X17_reduce 28 (.iconst 0, 0, 0, 0, []) := io_plain (by decide +kernel) rfl
theorem r_X17_reduce_29 : IOK WB AD SR FW TB md_X17_reduce 29 (.ireturn, 0, 0, 0, []) := io_plain (by decide +kernel) rfl
set_option maxRecDepth 100000 in
theorem ok_X17_reduce_0 : ∀ q ∈ tl_X17_reduce, IOK WB AD SR FW TB md_X17_reduce q.1 q.2 := List.forall_mem_cons.mpr ⟨r_X17_reduce_0, List.forall_mem_cons.mpr ⟨r_X17_reduce_1, List.forall_mem_cons.mpr ⟨r_X17_reduce_2, List.forall_mem_cons.mpr ⟨r_X17_reduce_5, List.forall_mem_cons.mpr ⟨r_X17_reduce_10, List.forall_mem_cons.mpr ⟨r_X17_reduce_13, List.forall_mem_cons.mpr ⟨r_X17_reduce_14, List.forall_mem_cons.mpr ⟨r_X17_reduce_18, List.forall_mem_cons.mpr ⟨r_X17_reduce_21, List.forall_mem_cons.mpr ⟨r_X17_reduce_22, List.forall_mem_cons.mpr ⟨r_X17_reduce_25, List.forall_mem_cons.mpr ⟨r_X17_reduce_28, List.forall_mem_cons.mpr ⟨r_X17_reduce_29, fun _ h => absurd h List.not_mem_nil⟩⟩⟩⟩⟩⟩⟩⟩⟩⟩⟩⟩⟩
set_option maxRecDepth 100000 in
theorem tq_X17_reduce_0 : tf_X17_reduce = tl_X17_reduce.map (fun q => (q.1, stepOf NPf md_X17_reduce q.2)) := rfl
theorem ro_X17_reduce : RowsOK (md_X17_reduce, tl_X17_reduce) tf_X17_reduce := ⟨tq_X17_reduce_0, ok_X17_reduce_0⟩
theorem r_X10_below_0 : IOK WB AD SR FW TB md_X10_below 0 (.aload_n 0, 0, 0, 0, []) := io_plain (by decide +kernel) rfl
theorem r_X10_below_1 : IOK WB AD SR FW TB md_X10_below 1 (.getfield 12, 11, 0, 2, []) := io_get (by decide +kernel) fo_RX10_12
theorem r_X10_below_4 : IOK WB AD SR FW TB md_X10_below 4 (.iload_n 1, 0, 0, 0, []) := io_plain (by decide +kernel) rfl
theorem r_X10_below_5 : IOK WB AD SR FW TB md_X10_below 5 (.invokevirtual 89, 67, 8, 0, []) := io_virt (by decide +kernel) tb_X7_hasSort (wb_5 25 rfl rfl) in_X7_hasSort se_X7_hasSort ⟨_, rfl, rfl⟩ pr_X7_hasSort (by decide)
theorem r_X10_below_8 : IOK WB AD SR FW TB md_X10_below 8 (.ifCond .eq 14, 0, 0, 0, []) := io_plain (by decide +kernel) rfl
set_option maxRecDepth 100000 in
theorem r_X10_below_22 : IOK WB AD SR FW TB md_X10_below 22 (.new 93, 101, 95, 97, []) := io_thx 1 rfl (thk_mk RX10 rfl 93 95 97 1 "there is no such sort" false (List.mem_of_getElem? (i := 12) rfl) (by decide) (by decide +kernel) (by decide +kernel) ⟨by decide +kernel, by decide +kernel, by decide +kernel⟩ (wb_5 29 rfl rfl) (wb_1 22 rfl rfl) at_RX10_97_1 rfl) (by decide +kernel)
theorem r_X10_below_25 : IOK WB AD SR FW TB md_X10_below 25 (.dup, 0, 0, 0, []) := io_plain (by decide +kernel) rfl
theorem r_X10_below_32 : IOK WB AD SR FW TB md_X10_below 32 (.aload_n 0, 0, 0, 0, []) := io_plain (by decide +kernel) rfl
set_option maxRecDepth 100000 in
theorem ok_X10_below_0 : ∀ q ∈ tl_X10_below, IOK WB AD SR FW TB md_X10_below q.1 q.2 := List.forall_mem_cons.mpr ⟨r_X10_below_0, List.forall_mem_cons.mpr ⟨r_X10_below_1, List.forall_mem_cons.mpr ⟨r_X10_below_4, List.forall_mem_cons.mpr ⟨r_X10_below_5, List.forall_mem_cons.mpr ⟨r_X10_below_8, List.forall_mem_cons.mpr ⟨r_X10_below_22, List.forall_mem_cons.mpr ⟨r_X10_below_25, List.forall_mem_cons.mpr ⟨r_X10_below_32, fun _ h => absurd h List.not_mem_nil⟩⟩⟩⟩⟩⟩⟩⟩
set_option maxRecDepth 100000 in
theorem tq_X10_below_0 : tf_X10_below = tl_X10_below.map (fun q => (q.1, stepOf NPf md_X10_below q.2)) := rfl
theorem ro_X10_below : RowsOK (md_X10_below, tl_X10_below) tf_X10_below := ⟨tq_X10_below_0, ok_X10_below_0⟩
theorem r_X10_variable_0 : IOK WB AD SR FW TB md_X10_variable 0 (.aload_n 0, 0, 0, 0, []) := io_plain (by decide +kernel) rfl
theorem r_X10_variable_1 : IOK WB AD SR FW TB md_X10_variable 1 (.getfield 12, 11, 0, 2, []) := io_get (by decide +kernel) fo_RX10_12
theorem r_X10_variable_4 : IOK WB AD SR FW TB md_X10_variable 4 (.iload_n 2, 0, 0, 0, []) := io_plain (by decide +kernel) rfl
theorem r_X10_variable_5 : IOK WB AD SR FW TB md_X10_variable 5 (.invokevirtual 89, 67, 8, 0, []) := io_virt (by decide +kernel) tb_X7_hasSort (wb_5 25 rfl rfl) in_X7_hasSort se_X7_hasSort ⟨_, rfl, rfl⟩ pr_X7_hasSort (by decide)
theorem r_X10_variable_8 : IOK WB AD SR FW TB md_X10_variable 8 (.ifCond .ne 13, 0, 0, 0, []) := io_plain (by decide +kernel) rfl
set_option maxRecDepth 100000 in
theorem r_X10_variable_11 : IOK WB AD SR FW TB md_X10_variable 11 (.new 93, 101, 95, 97, []) := io_thx 1 rfl (thk_mk RX10 rfl 93 95 97 1 "there is no such sort" false (List.mem_of_getElem? (i := 12) rfl) (by decide) (by decide +kernel) (by decide +kernel) ⟨by decide +kernel, by decide +kernel, by decide +kernel⟩ (wb_5 29 rfl rfl) (wb_1 22 rfl rfl) at_RX10_97_1 rfl) (by decide +kernel)
theorem r_X10_variable_14 : IOK WB AD SR FW TB md_X10_variable 14 (.dup, 0, 0, 0, []) := io_plain (by decide +kernel) rfl
theorem r_X10_variable_21 : IOK WB AD SR FW TB md_X10_variable 21 (.iload_n 1, 0, 0, 0, []) := io_plain (by decide +kernel) rfl
set_option maxRecDepth 100000 in
theorem ok_X10_variable_0 : ∀ q ∈ tl_X10_variable, IOK WB AD SR FW TB md_X10_variable q.1 q.2 := List.forall_mem_cons.mpr ⟨r_X10_variable_0, List.forall_mem_cons.mpr ⟨r_X10_variable_1, List.forall_mem_cons.mpr ⟨r_X10_variable_4, List.forall_mem_cons.mpr ⟨r_X10_variable_5, List.forall_mem_cons.mpr ⟨r_X10_variable_8, List.forall_mem_cons.mpr ⟨r_X10_variable_11, List.forall_mem_cons.mpr ⟨r_X10_variable_14, List.forall_mem_cons.mpr ⟨r_X10_variable_21, fun _ h => absurd h List.not_mem_nil⟩⟩⟩⟩⟩⟩⟩⟩
set_option maxRecDepth 100000 in
theorem tq_X10_variable_0 : tf_X10_variable = tl_X10_variable.map (fun q => (q.1, stepOf NPf md_X10_variable q.2)) := rfl
theorem ro_X10_variable : RowsOK (md_X10_variable, tl_X10_variable) tf_X10_variable := ⟨tq_X10_variable_0, ok_X10_variable_0⟩
theorem r_X10_declare_0 : IOK WB AD SR FW TB md_X10_declare 0 (.aload_n 0, 0, 0, 0, []) := io_plain (by decide +kernel) rfl
theorem r_X10_declare_1 : IOK WB AD SR FW TB md_X10_declare 1 (.getfield 12, 11, 0, 2, []) := io_get (by decide +kernel) fo_RX10_12
theorem r_X10_declare_4 : IOK WB AD SR FW TB md_X10_declare 4 (.iload_n 1, 0, 0, 0, []) := io_plain (by decide +kernel) rfl
theorem r_X10_declare_5 : IOK WB AD SR FW TB md_X10_declare 5 (.invokevirtual 126, 24, 8, 0, []) := io_virt (by decide +kernel) tb_X7_hasOperator (wb_5 91 rfl rfl) in_X7_hasOperator se_X7_hasOperator ⟨_, rfl, rfl⟩ pr_X7_hasOperator (by decide)
theorem r_X10_declare_8 : IOK WB AD SR FW TB md_X10_declare 8 (.ifCond .eq 14, 0, 0, 0, []) := io_plain (by decide +kernel) rfl
set_option maxRecDepth 100000 in
theorem r_X10_declare_22 : IOK WB AD SR FW TB md_X10_declare 22 (.new 93, 101, 149, 97, []) := io_thx 1 rfl (thk_mk RX10 rfl 93 149 97 1 "there is no such operator or sort" false (List.mem_of_getElem? (i := 13) rfl) (by decide) (by decide +kernel) (by decide +kernel) ⟨by decide +kernel, by decide +kernel, by decide +kernel⟩ (wb_5 29 rfl rfl) (wb_1 22 rfl rfl) at_RX10_97_1 rfl) (by decide +kernel)
theorem r_X10_declare_25 : IOK WB AD SR FW TB md_X10_declare 25 (.dup, 0, 0, 0, []) := io_plain (by decide +kernel) rfl
theorem r_X10_declare_32 : IOK WB AD SR FW TB md_X10_declare 32 (.aload_n 0, 0, 0, 0, []) := io_plain (by decide +kernel) rfl
set_option maxRecDepth 100000 in
theorem ok_X10_declare_0 : ∀ q ∈ tl_X10_declare, IOK WB AD SR FW TB md_X10_declare q.1 q.2 := List.forall_mem_cons.mpr ⟨r_X10_declare_0, List.forall_mem_cons.mpr ⟨r_X10_declare_1, List.forall_mem_cons.mpr ⟨r_X10_declare_4, List.forall_mem_cons.mpr ⟨r_X10_declare_5, List.forall_mem_cons.mpr ⟨r_X10_declare_8, List.forall_mem_cons.mpr ⟨r_X10_declare_22, List.forall_mem_cons.mpr ⟨r_X10_declare_25, List.forall_mem_cons.mpr ⟨r_X10_declare_32, fun _ h => absurd h List.not_mem_nil⟩⟩⟩⟩⟩⟩⟩⟩
set_option maxRecDepth 100000 in
theorem tq_X10_declare_0 : tf_X10_declare = tl_X10_declare.map (fun q => (q.1, stepOf NPf md_X10_declare q.2)) := rfl
theorem ro_X10_declare : RowsOK (md_X10_declare, tl_X10_declare) tf_X10_declare := ⟨tq_X10_declare_0, ok_X10_declare_0⟩
theorem r_X10_apply_0 : IOK WB AD SR FW TB md_X10_apply 0 (.aload_n 0, 0, 0, 0, []) := io_plain (by decide +kernel) rfl
theorem r_X10_apply_1 : IOK WB AD SR FW TB md_X10_apply 1 (.getfield 12, 11, 0, 2, []) := io_get (by decide +kernel) fo_RX10_12
theorem r_X10_apply_4 : IOK WB AD SR FW TB md_X10_apply 4 (.iload_n 1, 0, 0, 0, []) := io_plain (by decide +kernel) rfl
theorem r_X10_apply_5 : IOK WB AD SR FW TB md_X10_apply 5 (.invokevirtual 126, 24, 8, 0, []) := io_virt (by decide +kernel) tb_X7_hasOperator (wb_5 91 rfl rfl) in_X7_hasOperator se_X7_hasOperator ⟨_, rfl, rfl⟩ pr_X7_hasOperator (by decide)
theorem r_X10_apply_8 : IOK WB AD SR FW TB md_X10_apply 8 (.ifCond .ne 13, 0, 0, 0, []) := io_plain (by decide +kernel) rfl
set_option maxRecDepth 100000 in
theorem r_X10_apply_11 : IOK WB AD SR FW TB md_X10_apply 11 (.new 93, 101, 169, 97, []) := io_thx 1 rfl (thk_mk RX10 rfl 93 169 97 1 "there is no such operator" false (List.mem_of_getElem? (i := 14) rfl) (by decide) (by decide +kernel) (by decide +kernel) ⟨by decide +kernel, by decide +kernel, by decide +kernel⟩ (wb_5 29 rfl rfl) (wb_1 22 rfl rfl) at_RX10_97_1 rfl) (by decide +kernel)
theorem r_X10_apply_14 : IOK WB AD SR FW TB md_X10_apply 14 (.dup, 0, 0, 0, []) := io_plain (by decide +kernel) rfl
theorem r_X10_apply_21 : IOK WB AD SR FW TB md_X10_apply 21 (.aload_n 0, 0, 0, 0, []) := io_plain (by decide +kernel) rfl
set_option maxRecDepth 100000 in
theorem ok_X10_apply_0 : ∀ q ∈ tl_X10_apply, IOK WB AD SR FW TB md_X10_apply q.1 q.2 := List.forall_mem_cons.mpr ⟨r_X10_apply_0, List.forall_mem_cons.mpr ⟨r_X10_apply_1, List.forall_mem_cons.mpr ⟨r_X10_apply_4, List.forall_mem_cons.mpr ⟨r_X10_apply_5, List.forall_mem_cons.mpr ⟨r_X10_apply_8, List.forall_mem_cons.mpr ⟨r_X10_apply_11, List.forall_mem_cons.mpr ⟨r_X10_apply_14, List.forall_mem_cons.mpr ⟨r_X10_apply_21, fun _ h => absurd h List.not_mem_nil⟩⟩⟩⟩⟩⟩⟩⟩
set_option maxRecDepth 100000 in
theorem tq_X10_apply_0 : tf_X10_apply = tl_X10_apply.map (fun q => (q.1, stepOf NPf md_X10_apply q.2)) := rfl
theorem ro_X10_apply : RowsOK (md_X10_apply, tl_X10_apply) tf_X10_apply := ⟨tq_X10_apply_0, ok_X10_apply_0⟩
theorem r_X10_weight_0 : IOK WB AD SR FW TB md_X10_weight 0 (.aload_n 0, 0, 0, 0, []) := io_plain (by decide +kernel) rfl
theorem r_X10_weight_1 : IOK WB AD SR FW TB md_X10_weight 1 (.getfield 12, 11, 0, 2, []) := io_get (by decide +kernel) fo_RX10_12
theorem r_X10_weight_4 : IOK WB AD SR FW TB md_X10_weight 4 (.iload_n 1, 0, 0, 0, []) := io_plain (by decide +kernel) rfl
theorem r_X10_weight_5 : IOK WB AD SR FW TB md_X10_weight 5 (.invokevirtual 126, 24, 8, 0, []) := io_virt (by decide +kernel) tb_X7_hasOperator (wb_5 91 rfl rfl) in_X7_hasOperator se_X7_hasOperator ⟨_, rfl, rfl⟩ pr_X7_hasOperator (by decide)
theorem r_X10_weight_8 : IOK WB AD SR FW TB md_X10_weight 8 (.ifCond .eq 20, 0, 0, 0, []) := io_plain (by decide +kernel) rfl
set_option maxRecDepth 100000 in
theorem r_X10_weight_28 : IOK WB AD SR FW TB md_X10_weight 28 (.new 93, 101, 367, 97, [1]) := io_thx 1 rfl (thk_mk RX10 rfl 93 367 97 1 "there is no such operator or place" true (List.mem_of_getElem? (i := 15) rfl) (by decide) (by decide +kernel) (by decide +kernel) ⟨by decide +kernel, by decide +kernel, by decide +kernel⟩ (wb_5 29 rfl rfl) (wb_1 22 rfl rfl) at_RX10_97_1 rfl) (by decide +kernel)
theorem r_X10_weight_31 : IOK WB AD SR FW TB md_X10_weight 31 (.dup, 0, 0, 0, []) := io_plain (by decide +kernel) rfl
set_option maxRecDepth 100000 in
theorem ok_X10_weight_0 : ∀ q ∈ tl_X10_weight, IOK WB AD SR FW TB md_X10_weight q.1 q.2 := List.forall_mem_cons.mpr ⟨r_X10_weight_0, List.forall_mem_cons.mpr ⟨r_X10_weight_1, List.forall_mem_cons.mpr ⟨r_X10_weight_4, List.forall_mem_cons.mpr ⟨r_X10_weight_5, List.forall_mem_cons.mpr ⟨r_X10_weight_8, List.forall_mem_cons.mpr ⟨r_X10_weight_28, List.forall_mem_cons.mpr ⟨r_X10_weight_31, fun _ h => absurd h List.not_mem_nil⟩⟩⟩⟩⟩⟩⟩
set_option maxRecDepth 100000 in
theorem tq_X10_weight_0 : tf_X10_weight = tl_X10_weight.map (fun q => (q.1, stepOf NPf md_X10_weight q.2)) := rfl
theorem ro_X10_weight : RowsOK (md_X10_weight, tl_X10_weight) tf_X10_weight := ⟨tq_X10_weight_0, ok_X10_weight_0⟩
theorem r_X10_view_0 : IOK WB AD SR FW TB md_X10_view 0 (.aload_n 0, 0, 0, 0, []) := io_plain (by decide +kernel) rfl
theorem r_X10_view_1 : IOK WB AD SR FW TB md_X10_view 1 (.getfield 12, 11, 0, 2, []) := io_get (by decide +kernel) fo_RX10_12
theorem r_X10_view_4 : IOK WB AD SR FW TB md_X10_view 4 (.iload_n 1, 0, 0, 0, []) := io_plain (by decide +kernel) rfl
theorem r_X10_view_5 : IOK WB AD SR FW TB md_X10_view 5 (.invokevirtual 126, 24, 8, 0, []) := io_virt (by decide +kernel) tb_X7_hasOperator (wb_5 91 rfl rfl) in_X7_hasOperator se_X7_hasOperator ⟨_, rfl, rfl⟩ pr_X7_hasOperator (by decide)
theorem r_X10_view_8 : IOK WB AD SR FW TB md_X10_view 8 (.ifCond .eq 14, 0, 0, 0, []) := io_plain (by decide +kernel) rfl
set_option maxRecDepth 100000 in
theorem r_X10_view_22 : IOK WB AD SR FW TB md_X10_view 22 (.new 93, 101, 169, 97, []) := io_thx 1 rfl (thk_mk RX10 rfl 93 169 97 1 "there is no such operator" false (List.mem_of_getElem? (i := 14) rfl) (by decide) (by decide +kernel) (by decide +kernel) ⟨by decide +kernel, by decide +kernel, by decide +kernel⟩ (wb_5 29 rfl rfl) (wb_1 22 rfl rfl) at_RX10_97_1 rfl) (by decide +kernel)
theorem r_X10_view_25 : IOK WB AD SR FW TB md_X10_view 25 (.dup, 0, 0, 0, []) := io_plain (by decide +kernel) rfl
theorem r_X10_view_32 : IOK WB AD SR FW TB md_X10_view 32 (.aload_n 0, 0, 0, 0, []) := io_plain (by decide +kernel) rfl
set_option maxRecDepth 100000 in
theorem ok_X10_view_0 : ∀ q ∈ tl_X10_view, IOK WB AD SR FW TB md_X10_view q.1 q.2 := List.forall_mem_cons.mpr ⟨r_X10_view_0, List.forall_mem_cons.mpr ⟨r_X10_view_1, List.forall_mem_cons.mpr ⟨r_X10_view_4, List.forall_mem_cons.mpr ⟨r_X10_view_5, List.forall_mem_cons.mpr ⟨r_X10_view_8, List.forall_mem_cons.mpr ⟨r_X10_view_22, List.forall_mem_cons.mpr ⟨r_X10_view_25, List.forall_mem_cons.mpr ⟨r_X10_view_32, fun _ h => absurd h List.not_mem_nil⟩⟩⟩⟩⟩⟩⟩⟩
set_option maxRecDepth 100000 in
theorem tq_X10_view_0 : tf_X10_view = tl_X10_view.map (fun q => (q.1, stepOf NPf md_X10_view q.2)) := rfl
theorem ro_X10_view : RowsOK (md_X10_view, tl_X10_view) tf_X10_view := ⟨tq_X10_view_0, ok_X10_view_0⟩
theorem r_X17_drop_0 : IOK WB AD SR FW TB md_X17_drop 0 (.aload_n 0, 0, 0, 0, []) := io_plain (by decide +kernel) rfl
theorem r_X17_drop_1 : IOK WB AD SR FW TB md_X17_drop 1 (.iconst 0, 0, 0, 0, []) := io_plain (by decide +kernel) rfl
theorem r_X17_drop_2 : IOK WB AD SR FW TB md_X17_drop 2 (.putfield 114, 18, 0, 0, []) := io_put (by decide +kernel) fo_RX17_114 po_RX17_0_18_0_0
theorem r_X17_drop_5 : IOK WB AD SR FW TB md_X17_drop 5 (.aload_n 0, 0, 0, 0, []) := io_plain (by decide +kernel) rfl
theorem r_X17_drop_6 : IOK WB AD SR FW TB md_X17_drop 6 (.getfield 44, 18, 13, 2, []) := io_get (by decide +kernel) fo_RX17_44
theorem r_X17_drop_9 : IOK WB AD SR FW TB md_X17_drop 9 (.invokeinterface 271 1, 30, 0, 0, []) := io_face (by decide +kernel) tb_Jx4a65c_size_8abf5 (List.mem_of_getElem? (i := 0) rfl) (wb_8 32 rfl rfl) in_Jx4a65c_size_8abf5 (wb_8 35 rfl rfl) rfl rfl rfl pr_Jx4a65c_size_8abf5 (by decide)
theorem r_X17_drop_14 : IOK WB AD SR FW TB md_X17_drop 14 (.istore_n 1, 0, 0, 0, []) := io_plain (by decide +kernel) rfl
theorem r_X17_drop_15 : IOK WB AD SR FW TB md_X17_drop 15 (.aload_n 0, 0, 0, 0, []) := io_plain (by decide +kernel) rfl
theorem r_X17_drop_16 : IOK WB AD SR FW TB md_X17_drop 16 (.getfield 44, 18, 13, 2, []) := io_get (by decide +kernel) fo_RX17_44
theorem r_X17_drop_19 : IOK WB AD SR FW TB md_X17_drop 19 (.invokeinterface 354 1, 77, 0, 0, []) := io_face (by decide +kernel) tb_Jx4a65c_clear_da8c8 (List.mem_of_getElem? (i := 3) rfl) (wb_8 19 rfl rfl) in_Jx4a65c_clear_da8c8 (wb_8 22 rfl rfl) rfl rfl rfl pr_Jx4a65c_clear_da8c8 (by decide)
theorem r_X17_drop_24 : IOK WB AD SR FW TB md_X17_drop 24 (.iload_n 1, 0, 0, 0, []) := io_plain (by decide +kernel) rfl
theorem r_X17_drop_25 : IOK WB AD SR FW TB md_X17_drop 25 (.ireturn, 0, 0, 0, []) := io_plain (by decide +kernel) rfl
set_option maxRecDepth 100000 in
theorem ok_X17_drop_0 : ∀ q ∈ tl_X17_drop, IOK WB AD SR FW TB md_X17_drop q.1 q.2 := List.forall_mem_cons.mpr ⟨r_X17_drop_0, List.forall_mem_cons.mpr ⟨r_X17_drop_1, List.forall_mem_cons.mpr ⟨r_X17_drop_2, List.forall_mem_cons.mpr ⟨r_X17_drop_5, List.forall_mem_cons.mpr ⟨r_X17_drop_6, List.forall_mem_cons.mpr ⟨r_X17_drop_9, List.forall_mem_cons.mpr ⟨r_X17_drop_14, List.forall_mem_cons.mpr ⟨r_X17_drop_15, List.forall_mem_cons.mpr ⟨r_X17_drop_16, List.forall_mem_cons.mpr ⟨r_X17_drop_19, List.forall_mem_cons.mpr ⟨r_X17_drop_24, List.forall_mem_cons.mpr ⟨r_X17_drop_25, fun _ h => absurd h List.not_mem_nil⟩⟩⟩⟩⟩⟩⟩⟩⟩⟩⟩⟩
set_option maxRecDepth 100000 in
theorem tq_X17_drop_0 : tf_X17_drop = tl_X17_drop.map (fun q => (q.1, stepOf NPf md_X17_drop q.2)) := rfl
