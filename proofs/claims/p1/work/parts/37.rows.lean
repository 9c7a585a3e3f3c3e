theorem ro_X8_end : RowsOK (md_X8_end, tl_X8_end) tf_X8_end := ⟨tq_X8_end_0, ok_X8_end_0⟩
theorem r_X10_load_0 : IOK WB AD SR FW TB md_X10_load 0 (.iload_n 1, 0, 0, 0, []) := io_plain (by decide +kernel) rfl
theorem r_X10_load_1 : IOK WB AD SR FW TB md_X10_load 1 (.ifCond .lt 9, 0, 0, 0, []) := io_plain (by decide +kernel) rfl
theorem r_X10_load_4 : IOK WB AD SR FW TB md_X10_load 4 (.iload_n 1, 0, 0, 0, []) := io_plain (by decide +kernel) rfl
theorem r_X10_load_5 : IOK WB AD SR FW TB md_X10_load 5 (.bipush 20, 0, 0, 0, []) := io_plain (by decide +kernel) rfl
theorem r_X10_load_7 : IOK WB AD SR FW TB md_X10_load 7 (.if_icmp .lt 13, 0, 0, 0, []) := io_plain (by decide +kernel) rfl
set_option maxRecDepth 100000 in
theorem r_X10_load_10 : IOK WB AD SR FW TB md_X10_load 10 (.new 111, 102, 189, 115, []) := io_thx 2 rfl (thk_mk RX10 rfl 111 189 115 2 "there is no such slot" false (List.mem_of_getElem? (i := 3) rfl) (by decide) (by decide +kernel) (by decide +kernel) ⟨by decide +kernel, by decide +kernel, by decide +kernel⟩ (wb_5 63 rfl rfl) (wb_1 23 rfl rfl) at_RX10_115_2 rfl) (by decide +kernel)
theorem r_X10_load_13 : IOK WB AD SR FW TB md_X10_load 13 (.dup, 0, 0, 0, []) := io_plain (by decide +kernel) rfl
theorem r_X10_load_20 : IOK WB AD SR FW TB md_X10_load 20 (.aload_n 0, 0, 0, 0, []) := io_plain (by decide +kernel) rfl
theorem r_X10_load_21 : IOK WB AD SR FW TB md_X10_load 21 (.getfield 196, 11, 9, 0, []) := io_get (by decide +kernel) fo_RX10_196
theorem r_X10_load_24 : IOK WB AD SR FW TB md_X10_load 24 (.iload_n 1, 0, 0, 0, []) := io_plain (by decide +kernel) rfl
theorem r_X10_load_25 : IOK WB AD SR FW TB md_X10_load 25 (.ishr, 0, 0, 0, []) := io_plain (by decide +kernel) rfl
theorem r_X10_load_26 : IOK WB AD SR FW TB md_X10_load 26 (.iconst 1, 0, 0, 0, []) := io_plain (by decide +kernel) rfl
theorem r_X10_load_27 : IOK WB AD SR FW TB md_X10_load 27 (.iand, 0, 0, 0, []) := io_plain (by decide +kernel) rfl
theorem r_X10_load_28 : IOK WB AD SR FW TB md_X10_load 28 (.ifCond .eq 12, 0, 0, 0, []) := io_plain (by decide +kernel) rfl
set_option maxRecDepth 100000 in
theorem r_X10_load_40 : IOK WB AD SR FW TB md_X10_load 40 (.new 82, 100, 199, 86, []) := io_thx 0 rfl (thk_mk RX10 rfl 82 199 86 0 "nothing was kept there, or there are 10 terms" false (List.mem_of_getElem? (i := 4) rfl) (by decide) (by decide +kernel) (by decide +kernel) ⟨by decide +kernel, by decide +kernel, by decide +kernel⟩ (wb_4 188 rfl rfl) (wb_1 21 rfl rfl) at_RX10_86_0 rfl) (by decide +kernel)
theorem r_X10_load_43 : IOK WB AD SR FW TB md_X10_load 43 (.dup, 0, 0, 0, []) := io_plain (by decide +kernel) rfl
theorem r_X10_load_50 : IOK WB AD SR FW TB md_X10_load 50 (.aload_n 0, 0, 0, 0, []) := io_plain (by decide +kernel) rfl
set_option maxRecDepth 100000 in
theorem ok_X10_load_0 : ∀ q ∈ tl_X10_load, IOK WB AD SR FW TB md_X10_load q.1 q.2 := List.forall_mem_cons.mpr ⟨r_X10_load_0, List.forall_mem_cons.mpr ⟨r_X10_load_1, List.forall_mem_cons.mpr ⟨r_X10_load_4, List.forall_mem_cons.mpr ⟨r_X10_load_5, List.forall_mem_cons.mpr ⟨r_X10_load_7, List.forall_mem_cons.mpr ⟨r_X10_load_10, List.forall_mem_cons.mpr ⟨r_X10_load_13, List.forall_mem_cons.mpr ⟨r_X10_load_20, List.forall_mem_cons.mpr ⟨r_X10_load_21, List.forall_mem_cons.mpr ⟨r_X10_load_24, List.forall_mem_cons.mpr ⟨r_X10_load_25, List.forall_mem_cons.mpr ⟨r_X10_load_26, List.forall_mem_cons.mpr ⟨r_X10_load_27, List.forall_mem_cons.mpr ⟨r_X10_load_28, List.forall_mem_cons.mpr ⟨r_X10_load_40, List.forall_mem_cons.mpr ⟨r_X10_load_43, List.forall_mem_cons.mpr ⟨r_X10_load_50, fun _ h => absurd h List.not_mem_nil⟩⟩⟩⟩⟩⟩⟩⟩⟩⟩⟩⟩⟩⟩⟩⟩⟩
set_option maxRecDepth 100000 in
theorem tq_X10_load_0 : tf_X10_load = tl_X10_load.map (fun q => (q.1, stepOf NPf md_X10_load q.2)) := rfl
theorem ro_X10_load : RowsOK (md_X10_load, tl_X10_load) tf_X10_load := ⟨tq_X10_load_0, ok_X10_load_0⟩
theorem r_X17_tell_0 : IOK WB AD SR FW TB md_X17_tell 0 (.iload_n 2, 0, 0, 0, []) := io_plain (by decide +kernel) rfl
theorem r_X17_tell_1 : IOK WB AD SR FW TB md_X17_tell 1 (.ifCond .eq 7, 0, 0, 0, []) := io_plain (by decide +kernel) rfl
theorem r_X17_tell_4 : IOK WB AD SR FW TB md_X17_tell 4 (.iconst 4, 0, 0, 0, []) := io_plain (by decide +kernel) rfl
theorem r_X17_tell_5 : IOK WB AD SR FW TB md_X17_tell 5 (.goto 4, 0, 0, 0, []) := io_plain (by decide +kernel) rfl
theorem r_X17_tell_8 : IOK WB AD SR FW TB md_X17_tell 8 (.iconst 2, 0, 0, 0, []) := io_plain (by decide +kernel) rfl
theorem r_X17_tell_9 : IOK WB AD SR FW TB md_X17_tell 9 (.istore_n 3, 0, 0, 0, []) := io_plain (by decide +kernel) rfl
theorem r_X17_tell_10 : IOK WB AD SR FW TB md_X17_tell 10 (.aload_n 0, 0, 0, 0, []) := io_plain (by decide +kernel) rfl
theorem r_X17_tell_11 : IOK WB AD SR FW TB md_X17_tell 11 (.getfield 44, 18, 13, 2, []) := io_get (by decide +kernel) fo_RX17_44
theorem r_X17_tell_14 : IOK WB AD SR FW TB md_X17_tell 14 (.invokeinterface 271 1, 30, 0, 0, []) := io_face (by decide +kernel) tb_Jx4a65c_size_8abf5 (List.mem_of_getElem? (i := 0) rfl) (wb_8 32 rfl rfl) in_Jx4a65c_size_8abf5 (wb_8 35 rfl rfl) rfl rfl rfl pr_Jx4a65c_size_8abf5 (by decide)
theorem r_X17_tell_19 : IOK WB AD SR FW TB md_X17_tell 19 (.iload_n 3, 0, 0, 0, []) := io_plain (by decide +kernel) rfl
theorem r_X17_tell_20 : IOK WB AD SR FW TB md_X17_tell 20 (.isub, 0, 0, 0, []) := io_plain (by decide +kernel) rfl
theorem r_X17_tell_21 : IOK WB AD SR FW TB md_X17_tell 21 (.istore 4, 0, 0, 0, []) := io_plain (by decide +kernel) rfl
theorem r_X17_tell_23 : IOK WB AD SR FW TB md_X17_tell 23 (.iload_n 1, 0, 0, 0, []) := io_plain (by decide +kernel) rfl
theorem r_X17_tell_24 : IOK WB AD SR FW TB md_X17_tell 24 (.ifCond .eq 10, 0, 0, 0, []) := io_plain (by decide +kernel) rfl
theorem r_X17_tell_27 : IOK WB AD SR FW TB md_X17_tell 27 (.aload_n 0, 0, 0, 0, []) := io_plain (by decide +kernel) rfl
theorem r_X17_tell_28 : IOK WB AD SR FW TB md_X17_tell 28 (.getfield 57, 18, 16, 2, []) := io_get (by decide +kernel) fo_RX17_57
theorem r_X17_tell_31 : IOK WB AD SR FW TB md_X17_tell 31 (.goto 7, 0, 0, 0, []) := io_plain (by decide +kernel) rfl
theorem r_X17_tell_34 : IOK WB AD SR FW TB md_X17_tell 34 (.aload_n 0, 0, 0, 0, []) := io_plain (by decide +kernel) rfl
theorem r_X17_tell_35 : IOK WB AD SR FW TB md_X17_tell 35 (.getfield 54, 18, 15, 2, []) := io_get (by decide +kernel) fo_RX17_54
theorem r_X17_tell_38 : IOK WB AD SR FW TB md_X17_tell 38 (.astore 5, 0, 0, 0, []) := io_plain (by decide +kernel) rfl
theorem r_X17_tell_40 : IOK WB AD SR FW TB md_X17_tell 40 (.aload_n 0, 0, 0, 0, []) := io_plain (by decide +kernel) rfl
theorem r_X17_tell_41 : IOK WB AD SR FW TB md_X17_tell 41 (.iload 4, 0, 0, 0, []) := io_plain (by decide +kernel) rfl
theorem r_X17_tell_43 : IOK WB AD SR FW TB md_X17_tell 43 (.ifCond .lt 24, 0, 0, 0, []) := io_plain (by decide +kernel) rfl
theorem r_X17_tell_67 : IOK WB AD SR FW TB md_X17_tell 67 (.iconst 1, 0, 0, 0, []) := io_plain (by decide +kernel) rfl
theorem r_X17_tell_68 : IOK WB AD SR FW TB md_X17_tell 68 (.goto 4, 0, 0, 0, []) := io_plain (by decide +kernel) rfl
theorem r_X17_tell_72 : IOK WB AD SR FW TB md_X17_tell 72 (.putfield 114, 18, 0, 0, []) := io_put (by decide +kernel) fo_RX17_114 po_RX17_0_18_0_0
theorem r_X17_tell_75 : IOK WB AD SR FW TB md_X17_tell 75 (.aload_n 0, 0, 0, 0, []) := io_plain (by decide +kernel) rfl
theorem r_X17_tell_76 : IOK WB AD SR FW TB md_X17_tell 76 (.getfield 114, 18, 0, 0, []) := io_get (by decide +kernel) fo_RX17_114
theorem r_X17_tell_79 : IOK WB AD SR FW TB md_X17_tell 79 (.ifCond .le 5, 0, 0, 0, []) := io_plain (by decide +kernel) rfl
theorem r_X17_tell_82 : IOK WB AD SR FW TB md_X17_tell 82 (.iconst 0, 0, 0, 0, []) := io_plain (by decide +kernel) rfl
theorem r_X17_tell_83 : IOK WB AD SR FW TB md_X17_tell 83 (.ireturn, 0, 0, 0, []) := io_plain (by decide +kernel) rfl
set_option maxRecDepth 100000 in
theorem ok_X17_tell_0 : ∀ q ∈ tl_X17_tell, IOK WB AD SR FW TB md_X17_tell q.1 q.2 := List.forall_mem_cons.mpr ⟨r_X17_tell_0, List.forall_mem_cons.mpr ⟨r_X17_tell_1, List.forall_mem_cons.mpr ⟨r_X17_tell_4, List.forall_mem_cons.mpr ⟨r_X17_tell_5, List.forall_mem_cons.mpr ⟨r_X17_tell_8, List.forall_mem_cons.mpr ⟨r_X17_tell_9, List.forall_mem_cons.mpr ⟨r_X17_tell_10, List.forall_mem_cons.mpr ⟨r_X17_tell_11, List.forall_mem_cons.mpr ⟨r_X17_tell_14, List.forall_mem_cons.mpr ⟨r_X17_tell_19, List.forall_mem_cons.mpr ⟨r_X17_tell_20, List.forall_mem_cons.mpr ⟨r_X17_tell_21, List.forall_mem_cons.mpr ⟨r_X17_tell_23, List.forall_mem_cons.mpr ⟨r_X17_tell_24, List.forall_mem_cons.mpr ⟨r_X17_tell_27, List.forall_mem_cons.mpr ⟨r_X17_tell_28, List.forall_mem_cons.mpr ⟨r_X17_tell_31, List.forall_mem_cons.mpr ⟨r_X17_tell_34, List.forall_mem_cons.mpr ⟨r_X17_tell_35, List.forall_mem_cons.mpr ⟨r_X17_tell_38, List.forall_mem_cons.mpr ⟨r_X17_tell_40, List.forall_mem_cons.mpr ⟨r_X17_tell_41, List.forall_mem_cons.mpr ⟨r_X17_tell_43, List.forall_mem_cons.mpr ⟨r_X17_tell_67, List.forall_mem_cons.mpr ⟨r_X17_tell_68, List.forall_mem_cons.mpr ⟨r_X17_tell_72, List.forall_mem_cons.mpr ⟨r_X17_tell_75, List.forall_mem_cons.mpr ⟨r_X17_tell_76, List.forall_mem_cons.mpr ⟨r_X17_tell_79, List.forall_mem_cons.mpr ⟨r_X17_tell_82, List.forall_mem_cons.mpr ⟨r_X17_tell_83, fun _ h => absurd h List.not_mem_nil⟩⟩⟩⟩⟩⟩⟩⟩⟩⟩⟩⟩⟩⟩⟩⟩⟩⟩⟩⟩⟩⟩⟩⟩⟩⟩⟩⟩⟩⟩⟩
set_option maxRecDepth 100000 in
theorem tq_X17_tell_0 : tf_X17_tell = tl_X17_tell.map (fun q => (q.1, stepOf NPf md_X17_tell q.2)) := rfl
theorem ro_X17_tell : RowsOK (md_X17_tell, tl_X17_tell) tf_X17_tell := ⟨tq_X17_tell_0, ok_X17_tell_0⟩
theorem r_Jx4a65c_grow_92f84_0 : IOK WB AD SR FW TB md_Jx4a65c_grow_92f84 0 (.aload_n 0, 0, 0, 0, []) := io_plain (by decide +kernel) rfl
theorem r_Jx4a65c_grow_92f84_1 : IOK WB AD SR FW TB md_Jx4a65c_grow_92f84 1 (.getfield 9, 0, 1, 2, []) := io_get (by decide +kernel) fo_RJx4a65c_9
theorem r_Jx4a65c_grow_92f84_4 : IOK WB AD SR FW TB md_Jx4a65c_grow_92f84 4 (.arraylength, 0, 0, 0, []) := io_plain (by decide +kernel) rfl
theorem r_Jx4a65c_grow_92f84_5 : IOK WB AD SR FW TB md_Jx4a65c_grow_92f84 5 (.istore_n 2, 0, 0, 0, []) := io_plain (by decide +kernel) rfl
theorem r_Jx4a65c_grow_92f84_6 : IOK WB AD SR FW TB md_Jx4a65c_grow_92f84 6 (.iload_n 2, 0, 0, 0, []) := io_plain (by decide +kernel) rfl
theorem r_Jx4a65c_grow_92f84_7 : IOK WB AD SR FW TB md_Jx4a65c_grow_92f84 7 (.ifCond .gt 13, 0, 0, 0, []) := io_plain (by decide +kernel) rfl
theorem r_Jx4a65c_grow_92f84_10 : IOK WB AD SR FW TB md_Jx4a65c_grow_92f84 10 (.aload_n 0, 0, 0, 0, []) := io_plain (by decide +kernel) rfl
theorem r_Jx4a65c_grow_92f84_11 : IOK WB AD SR FW TB md_Jx4a65c_grow_92f84 11 (.getfield 9, 0, 1, 2, []) := io_get (by decide +kernel) fo_RJx4a65c_9
theorem r_Jx4a65c_grow_92f84_14 : IOK WB AD SR FW TB md_Jx4a65c_grow_92f84 14 (.getstatic 39, 0, 0, 0, []) := io_gets (by decide +kernel) (wb_7 58 rfl rfl)
theorem r_Jx4a65c_grow_92f84_17 : IOK WB AD SR FW TB md_Jx4a65c_grow_92f84 17 (.if_acmp .eq 28, 0, 0, 0, []) := io_plain (by decide +kernel) rfl
theorem r_Jx4a65c_grow_92f84_45 : IOK WB AD SR FW TB md_Jx4a65c_grow_92f84 45 (.aload_n 0, 0, 0, 0, []) := io_plain (by decide +kernel) rfl
theorem r_Jx4a65c_grow_92f84_46 : IOK WB AD SR FW TB md_Jx4a65c_grow_92f84 46 (.bipush 10, 0, 0, 0, []) := io_plain (by decide +kernel) rfl
theorem r_Jx4a65c_grow_92f84_48 : IOK WB AD SR FW TB md_Jx4a65c_grow_92f84 48 (.iload_n 1, 0, 0, 0, []) := io_plain (by decide +kernel) rfl
theorem r_Jx4a65c_grow_92f84_49 : IOK WB AD SR FW TB md_Jx4a65c_grow_92f84 49 (.invokestatic 79, 1001, 0, 0, []) := io_max (by decide +kernel) (wb_9 75 rfl rfl) mx_1 mx_2 mx_3
theorem r_Jx4a65c_grow_92f84_52 : IOK WB AD SR FW TB md_Jx4a65c_grow_92f84 52 (.anewarray 7, 1, 0, 0, []) := io_newq (by decide +kernel) (by decide) (wb_9 76 rfl rfl)
theorem r_Jx4a65c_grow_92f84_55 : IOK WB AD SR FW TB md_Jx4a65c_grow_92f84 55 (.dup_x1, 0, 0, 0, []) := io_plain (by decide +kernel) rfl
theorem r_Jx4a65c_grow_92f84_56 : IOK WB AD SR FW TB md_Jx4a65c_grow_92f84 56 (.putfield 9, 0, 1, 2, []) := io_put (by decide +kernel) fo_RJx4a65c_9 po_RJx4a65c_0_0_1_2
theorem r_Jx4a65c_grow_92f84_59 : IOK WB AD SR FW TB md_Jx4a65c_grow_92f84 59 (.areturn, 0, 0, 0, []) := io_aret (by decide +kernel) rfl
set_option maxRecDepth 100000 in
theorem ok_Jx4a65c_grow_92f84_0 : ∀ q ∈ tl_Jx4a65c_grow_92f84, IOK WB AD SR FW TB md_Jx4a65c_grow_92f84 q.1 q.2 := List.forall_mem_cons.mpr ⟨r_Jx4a65c_grow_92f84_0, List.forall_mem_cons.mpr ⟨r_Jx4a65c_grow_92f84_1, List.forall_mem_cons.mpr ⟨r_Jx4a65c_grow_92f84_4, List.forall_mem_cons.mpr ⟨r_Jx4a65c_grow_92f84_5, List.forall_mem_cons.mpr ⟨r_Jx4a65c_grow_92f84_6, List.forall_mem_cons.mpr ⟨r_Jx4a65c_grow_92f84_7, List.forall_mem_cons.mpr ⟨r_Jx4a65c_grow_92f84_10, List.forall_mem_cons.mpr ⟨r_Jx4a65c_grow_92f84_11, List.forall_mem_cons.mpr ⟨r_Jx4a65c_grow_92f84_14, List.forall_mem_cons.mpr ⟨r_Jx4a65c_grow_92f84_17, List.forall_mem_cons.mpr ⟨r_Jx4a65c_grow_92f84_45, List.forall_mem_cons.mpr ⟨r_Jx4a65c_grow_92f84_46, List.forall_mem_cons.mpr ⟨r_Jx4a65c_grow_92f84_48, List.forall_mem_cons.mpr ⟨r_Jx4a65c_grow_92f84_49, List.forall_mem_cons.mpr ⟨r_Jx4a65c_grow_92f84_52, List.forall_mem_cons.mpr ⟨r_Jx4a65c_grow_92f84_55, List.forall_mem_cons.mpr ⟨r_Jx4a65c_grow_92f84_56, List.forall_mem_cons.mpr ⟨r_Jx4a65c_grow_92f84_59, fun _ h => absurd h List.not_mem_nil⟩⟩⟩⟩⟩⟩⟩⟩⟩⟩⟩⟩⟩⟩⟩⟩⟩⟩
set_option maxRecDepth 100000 in
theorem tq_Jx4a65c_grow_92f84_0 : tf_Jx4a65c_grow_92f84 = tl_Jx4a65c_grow_92f84.map (fun q => (q.1, stepOf NPf md_Jx4a65c_grow_92f84 q.2)) := rfl
theorem ro_Jx4a65c_grow_92f84 : RowsOK (md_Jx4a65c_grow_92f84, tl_Jx4a65c_grow_92f84) tf_Jx4a65c_grow_92f84 := ⟨tq_Jx4a65c_grow_92f84_0, ok_Jx4a65c_grow_92f84_0⟩
theorem r_Jx4a65c_size_8abf5_0 : IOK WB AD SR FW TB md_Jx4a65c_size_8abf5 0 (.aload_n 0, 0, 0, 0, []) := io_plain (by decide +kernel) rfl
theorem r_Jx4a65c_size_8abf5_1 : IOK WB AD SR FW TB md_Jx4a65c_size_8abf5 1 (.getfield 48, 0, 2, 0, []) := io_get (by decide +kernel) fo_RJx4a65c_48
theorem r_Jx4a65c_size_8abf5_4 : IOK WB AD SR FW TB md_Jx4a65c_size_8abf5 4 (.ireturn, 0, 0, 0, []) := io_plain (by decide +kernel) rfl
set_option maxRecDepth 100000 in
theorem ok_Jx4a65c_size_8abf5_0 : ∀ q ∈ tl_Jx4a65c_size_8abf5, IOK WB AD SR FW TB md_Jx4a65c_size_8abf5 q.1 q.2 := List.forall_mem_cons.mpr ⟨r_Jx4a65c_size_8abf5_0, List.forall_mem_cons.mpr ⟨r_Jx4a65c_size_8abf5_1, List.forall_mem_cons.mpr ⟨r_Jx4a65c_size_8abf5_4, fun _ h => absurd h List.not_mem_nil⟩⟩⟩
set_option maxRecDepth 100000 in
theorem tq_Jx4a65c_size_8abf5_0 : tf_Jx4a65c_size_8abf5 = tl_Jx4a65c_size_8abf5.map (fun q => (q.1, stepOf NPf md_Jx4a65c_size_8abf5 q.2)) := rfl
theorem ro_Jx4a65c_size_8abf5 : RowsOK (md_Jx4a65c_size_8abf5, tl_Jx4a65c_size_8abf5) tf_Jx4a65c_size_8abf5 := ⟨tq_Jx4a65c_size_8abf5_0, ok_Jx4a65c_size_8abf5_0⟩
theorem r_Jx4a65c_add_72be8_0 : IOK WB AD SR FW TB md_Jx4a65c_add_72be8 0 (.iload_n 3, 0, 0, 0, []) := io_plain (by decide +kernel) rfl
theorem r_Jx4a65c_add_72be8_1 : IOK WB AD SR FW TB md_Jx4a65c_add_72be8 1 (.aload_n 2, 0, 0, 0, []) := io_plain (by decide +kernel) rfl
theorem r_Jx4a65c_add_72be8_2 : IOK WB AD SR FW TB md_Jx4a65c_add_72be8 2 (.arraylength, 0, 0, 0, []) := io_plain (by decide +kernel) rfl
theorem r_Jx4a65c_add_72be8_3 : IOK WB AD SR FW TB md_Jx4a65c_add_72be8 3 (.if_icmp .ne 8, 0, 0, 0, []) := io_plain (by decide +kernel) rfl
theorem r_Jx4a65c_add_72be8_6 : IOK WB AD SR FW TB md_Jx4a65c_add_72be8 6 (.aload_n 0, 0, 0, 0, []) := io_plain (by decide +kernel) rfl
theorem r_Jx4a65c_add_72be8_7 : IOK WB AD SR FW TB md_Jx4a65c_add_72be8 7 (.invokevirtual 129, 42, 0, 0, []) := io_virt (by decide +kernel) tb_Jx4a65c_grow_d5877 (wb_9 22 rfl rfl) in_Jx4a65c_grow_d5877 se_Jx4a65c_grow_d5877 ⟨_, rfl, rfl⟩ pr_Jx4a65c_grow_d5877 (by decide)
theorem r_Jx4a65c_add_72be8_10 : IOK WB AD SR FW TB md_Jx4a65c_add_72be8 10 (.astore_n 2, 0, 0, 0, []) := io_plain (by decide +kernel) rfl
theorem r_Jx4a65c_add_72be8_11 : IOK WB AD SR FW TB md_Jx4a65c_add_72be8 11 (.aload_n 2, 0, 0, 0, []) := io_plain (by decide +kernel) rfl
theorem r_Jx4a65c_add_72be8_12 : IOK WB AD SR FW TB md_Jx4a65c_add_72be8 12 (.iload_n 3, 0, 0, 0, []) := io_plain (by decide +kernel) rfl
theorem r_Jx4a65c_add_72be8_13 : IOK WB AD SR FW TB md_Jx4a65c_add_72be8 13 (.aload_n 1, 0, 0, 0, []) := io_plain (by decide +kernel) rfl
theorem r_Jx4a65c_add_72be8_14 : IOK WB AD SR FW TB md_Jx4a65c_add_72be8 14 (.aastore, 0, 0, 0, []) := io_plain (by decide +kernel) rfl
theorem r_Jx4a65c_add_72be8_15 : IOK WB AD SR FW TB md_Jx4a65c_add_72be8 15 (.aload_n 0, 0, 0, 0, []) := io_plain (by decide +kernel) rfl
theorem r_Jx4a65c_add_72be8_16 : IOK WB AD SR FW TB md_Jx4a65c_add_72be8 16 (.iload_n 3, 0, 0, 0, []) := io_plain (by decide +kernel) rfl
theorem r_Jx4a65c_add_72be8_17 : IOK WB AD SR FW TB md_Jx4a65c_add_72be8 17 (.iconst 1, 0, 0, 0, []) := io_plain (by decide +kernel) rfl
theorem r_Jx4a65c_add_72be8_18 : IOK WB AD SR FW TB md_Jx4a65c_add_72be8 18 (.iadd, 0, 0, 0, []) := io_plain (by decide +kernel) rfl
theorem r_Jx4a65c_add_72be8_19 : IOK WB AD SR FW TB md_Jx4a65c_add_72be8 19 (.putfield 48, 0, 2, 0, []) := io_put (by decide +kernel) fo_RJx4a65c_48 po_RJx4a65c_0_0_2_0
theorem r_Jx4a65c_add_72be8_22 : IOK WB AD SR FW TB md_Jx4a65c_add_72be8 22 (.return_, 0, 0, 0, []) := io_void (by decide +kernel) rfl
set_option maxRecDepth 100000 in
theorem ok_Jx4a65c_add_72be8_0 : ∀ q ∈ tl_Jx4a65c_add_72be8, IOK WB AD SR FW TB md_Jx4a65c_add_72be8 q.1 q.2 := List.forall_mem_cons.mpr ⟨r_Jx4a65c_add_72be8_0, List.forall_mem_cons.mpr ⟨r_Jx4a65c_add_72be8_1, List.forall_mem_cons.mpr ⟨r_Jx4a65c_add_72be8_2, List.forall_mem_cons.mpr ⟨r_Jx4a65c_add_72be8_3, List.forall_mem_cons.mpr ⟨r_Jx4a65c_add_72be8_6, List.forall_mem_cons.mpr ⟨r_Jx4a65c_add_72be8_7, List.forall_mem_cons.mpr ⟨r_Jx4a65c_add_72be8_10, List.forall_mem_cons.mpr ⟨r_Jx4a65c_add_72be8_11, List.forall_mem_cons.mpr ⟨r_Jx4a65c_add_72be8_12, List.forall_mem_cons.mpr ⟨r_Jx4a65c_add_72be8_13, List.forall_mem_cons.mpr ⟨r_Jx4a65c_add_72be8_14, List.forall_mem_cons.mpr ⟨r_Jx4a65c_add_72be8_15, List.forall_mem_cons.mpr ⟨r_Jx4a65c_add_72be8_16, List.forall_mem_cons.mpr ⟨r_Jx4a65c_add_72be8_17, List.forall_mem_cons.mpr ⟨r_Jx4a65c_add_72be8_18, List.forall_mem_cons.mpr ⟨r_Jx4a65c_add_72be8_19, List.forall_mem_cons.mpr ⟨r_Jx4a65c_add_72be8_22, fun _ h => absurd h List.not_mem_nil⟩⟩⟩⟩⟩⟩⟩⟩⟩⟩⟩⟩⟩⟩⟩⟩⟩
set_option maxRecDepth 100000 in
theorem tq_Jx4a65c_add_72be8_0 : tf_Jx4a65c_add_72be8 = tl_Jx4a65c_add_72be8.map (fun q => (q.1, stepOf NPf md_Jx4a65c_add_72be8 q.2)) := rfl
theorem ro_Jx4a65c_add_72be8 : RowsOK (md_Jx4a65c_add_72be8, tl_Jx4a65c_add_72be8) tf_Jx4a65c_add_72be8 := ⟨tq_Jx4a65c_add_72be8_0, ok_Jx4a65c_add_72be8_0⟩
theorem r_L_load_0 : IOK WB AD SR FW TB md_L_load 0 (.aload_n 2, 0, 0, 0, []) := io_plain (by decide +kernel) rfl
theorem r_L_load_1 : IOK WB AD SR FW TB md_L_load 1 (.iconst 0, 0, 0, 0, []) := io_plain (by decide +kernel) rfl
theorem r_L_load_2 : IOK WB AD SR FW TB md_L_load 2 (.aload_n 0, 0, 0, 0, []) := io_plain (by decide +kernel) rfl
theorem r_L_load_3 : IOK WB AD SR FW TB md_L_load 3 (.iload_n 1, 0, 0, 0, []) := io_plain (by decide +kernel) rfl
theorem r_L_load_4 : IOK WB AD SR FW TB md_L_load 4 (.invokevirtual 45, 27, 11, 0, []) := io_virt (by decide +kernel) tb_X10_load (wb_5 157 rfl rfl) in_X10_load se_X10_load ⟨_, rfl, rfl⟩ pr_X10_load (by decide)
theorem r_L_load_12 : IOK WB AD SR FW TB md_L_load 12 (.astore_n 3, 0, 0, 0, []) := io_plain (by decide +kernel) rfl
theorem r_L_load_13 : IOK WB AD SR FW TB md_L_load 13 (.iconst 1, 0, 0, 0, []) := io_plain (by decide +kernel) rfl
theorem r_L_load_14 : IOK WB AD SR FW TB md_L_load 14 (.ireturn, 0, 0, 0, []) := io_plain (by decide +kernel) rfl
theorem r_L_load_15 : IOK WB AD SR FW TB md_L_load 15 (.astore_n 3, 0, 0, 0, []) := io_plain (by decide +kernel) rfl
theorem r_L_load_16 : IOK WB AD SR FW TB md_L_load 16 (.iconst 2, 0, 0, 0, []) := io_plain (by decide +kernel) rfl
theorem r_L_load_17 : IOK WB AD SR FW TB md_L_load 17 (.ireturn, 0, 0, 0, []) := io_plain (by decide +kernel) rfl
set_option maxRecDepth 100000 in
theorem ok_L_load_0 : ∀ q ∈ tl_L_load, IOK WB AD SR FW TB md_L_load q.1 q.2 := List.forall_mem_cons.mpr ⟨r_L_load_0, List.forall_mem_cons.mpr ⟨r_L_load_1, List.forall_mem_cons.mpr ⟨r_L_load_2, List.forall_mem_cons.mpr ⟨r_L_load_3, List.forall_mem_cons.mpr ⟨r_L_load_4, List.forall_mem_cons.mpr ⟨r_L_load_12, List.forall_mem_cons.mpr ⟨r_L_load_13, List.forall_mem_cons.mpr ⟨r_L_load_14, List.forall_mem_cons.mpr ⟨r_L_load_15, List.forall_mem_cons.mpr ⟨r_L_load_16, List.forall_mem_cons.mpr ⟨r_L_load_17, fun _ h => absurd h List.not_mem_nil⟩⟩⟩⟩⟩⟩⟩⟩⟩⟩⟩
set_option maxRecDepth 100000 in
theorem tq_L_load_0 : tf_L_load = tl_L_load.map (fun q => (q.1, stepOf NPf md_L_load q.2)) := rfl
theorem ro_L_load : RowsOK (md_L_load, tl_L_load) tf_L_load := ⟨tq_L_load_0, ok_L_load_0⟩
theorem r_Jx4a65c_add_9ea2d_0 : IOK WB AD SR FW TB md_Jx4a65c_add_9ea2d 0 (.aload_n 0, 0, 0, 0, []) := io_plain (by decide +kernel) rfl
theorem r_Jx4a65c_add_9ea2d_1 : IOK WB AD SR FW TB md_Jx4a65c_add_9ea2d 1 (.dup, 0, 0, 0, []) := io_plain (by decide +kernel) rfl
theorem r_Jx4a65c_add_9ea2d_2 : IOK WB AD SR FW TB md_Jx4a65c_add_9ea2d 2 (.getfield 63, 0, 0, 0, []) := io_get (by decide +kernel) fo_RJx4a65c_63
theorem r_Jx4a65c_add_9ea2d_5 : IOK WB AD SR FW TB md_Jx4a65c_add_9ea2d 5 (.iconst 1, 0, 0, 0, []) := io_plain (by decide +kernel) rfl
theorem r_Jx4a65c_add_9ea2d_6 : IOK WB AD SR FW TB md_Jx4a65c_add_9ea2d 6 (.iadd, 0, 0, 0, []) := io_plain (by decide +kernel) rfl
theorem r_Jx4a65c_add_9ea2d_7 : IOK WB AD SR FW TB md_Jx4a65c_add_9ea2d 7 (.putfield 63, 0, 0, 0, []) := io_put (by decide +kernel) fo_RJx4a65c_63 po_RJx4a65c_0_0_0_0
theorem r_Jx4a65c_add_9ea2d_10 : IOK WB AD SR FW TB md_Jx4a65c_add_9ea2d 10 (.aload_n 0, 0, 0, 0, []) := io_plain (by decide +kernel) rfl
theorem r_Jx4a65c_add_9ea2d_11 : IOK WB AD SR FW TB md_Jx4a65c_add_9ea2d 11 (.aload_n 1, 0, 0, 0, []) := io_plain (by decide +kernel) rfl
theorem r_Jx4a65c_add_9ea2d_12 : IOK WB AD SR FW TB md_Jx4a65c_add_9ea2d 12 (.aload_n 0, 0, 0, 0, []) := io_plain (by decide +kernel) rfl
theorem r_Jx4a65c_add_9ea2d_13 : IOK WB AD SR FW TB md_Jx4a65c_add_9ea2d 13 (.getfield 9, 0, 1, 2, []) := io_get (by decide +kernel) fo_RJx4a65c_9
theorem r_Jx4a65c_add_9ea2d_16 : IOK WB AD SR FW TB md_Jx4a65c_add_9ea2d 16 (.aload_n 0, 0, 0, 0, []) := io_plain (by decide +kernel) rfl
theorem r_Jx4a65c_add_9ea2d_17 : IOK WB AD SR FW TB md_Jx4a65c_add_9ea2d 17 (.getfield 48, 0, 2, 0, []) := io_get (by decide +kernel) fo_RJx4a65c_48
theorem r_Jx4a65c_add_9ea2d_20 : IOK WB AD SR FW TB md_Jx4a65c_add_9ea2d 20 (.invokevirtual 131, 31, 0, 0, []) := io_virt (by decide +kernel) tb_Jx4a65c_add_72be8 (wb_9 18 rfl rfl) in_Jx4a65c_add_72be8 se_Jx4a65c_add_72be8 ⟨_, rfl, rfl⟩ pr_Jx4a65c_add_72be8 (by decide)
theorem r_Jx4a65c_add_9ea2d_23 : IOK WB AD SR FW TB md_Jx4a65c_add_9ea2d 23 (.iconst 1, 0, 0, 0, []) := io_plain (by decide +kernel) rfl
theorem r_Jx4a65c_add_9ea2d_24 : IOK WB AD SR FW TB md_Jx4a65c_add_9ea2d 24 (.ireturn, 0, 0, 0, []) := io_plain (by decide +kernel) rfl
set_option maxRecDepth 100000 in
theorem ok_Jx4a65c_add_9ea2d_0 : ∀ q ∈ tl_Jx4a65c_add_9ea2d, IOK WB AD SR FW TB md_Jx4a65c_add_9ea2d q.1 q.2 := List.forall_mem_cons.mpr ⟨r_Jx4a65c_add_9ea2d_0, List.forall_mem_cons.mpr ⟨r_Jx4a65c_add_9ea2d_1, List.forall_mem_cons.mpr ⟨r_Jx4a65c_add_9ea2d_2, List.forall_mem_cons.mpr ⟨r_Jx4a65c_add_9ea2d_5, List.forall_mem_cons.mpr ⟨r_Jx4a65c_add_9ea2d_6, List.forall_mem_cons.mpr ⟨r_Jx4a65c_add_9ea2d_7, List.forall_mem_cons.mpr ⟨r_Jx4a65c_add_9ea2d_10, List.forall_mem_cons.mpr ⟨r_Jx4a65c_add_9ea2d_11, List.forall_mem_cons.mpr ⟨r_Jx4a65c_add_9ea2d_12, List.forall_mem_cons.mpr ⟨r_Jx4a65c_add_9ea2d_13, List.forall_mem_cons.mpr ⟨r_Jx4a65c_add_9ea2d_16, List.forall_mem_cons.mpr ⟨r_Jx4a65c_add_9ea2d_17, List.forall_mem_cons.mpr ⟨r_Jx4a65c_add_9ea2d_20, List.forall_mem_cons.mpr ⟨r_Jx4a65c_add_9ea2d_23, List.forall_mem_cons.mpr ⟨r_Jx4a65c_add_9ea2d_24, fun _ h => absurd h List.not_mem_nil⟩⟩⟩⟩⟩⟩⟩⟩⟩⟩⟩⟩⟩⟩⟩
set_option maxRecDepth 100000 in
theorem tq_Jx4a65c_add_9ea2d_0 : tf_Jx4a65c_add_9ea2d = tl_Jx4a65c_add_9ea2d.map (fun q => (q.1, stepOf NPf md_Jx4a65c_add_9ea2d q.2)) := rfl
theorem ro_Jx4a65c_add_9ea2d : RowsOK (md_Jx4a65c_add_9ea2d, tl_Jx4a65c_add_9ea2d) tf_Jx4a65c_add_9ea2d := ⟨tq_Jx4a65c_add_9ea2d_0, ok_Jx4a65c_add_9ea2d_0⟩
theorem r_X10_push_0 : IOK WB AD SR FW TB md_X10_push 0 (.aload_n 0, 0, 0, 0, []) := io_plain (by decide +kernel) rfl
theorem r_X10_push_1 : IOK WB AD SR FW TB md_X10_push 1 (.getfield 21, 11, 1, 2, []) := io_get (by decide +kernel) fo_RX10_21
theorem r_X10_push_4 : IOK WB AD SR FW TB md_X10_push 4 (.iload_n 1, 0, 0, 0, []) := io_plain (by decide +kernel) rfl
theorem r_X10_push_5 : IOK WB AD SR FW TB md_X10_push 5 (.aload_n 0, 0, 0, 0, []) := io_plain (by decide +kernel) rfl
theorem r_X10_push_6 : IOK WB AD SR FW TB md_X10_push 6 (.getfield 160, 11, 8, 0, []) := io_get (by decide +kernel) fo_RX10_160
theorem r_X10_push_9 : IOK WB AD SR FW TB md_X10_push 9 (.invokestatic 176, 45, 11, 0, []) := io_stat (by decide +kernel) tb_X10_stackAt (wb_5 129 rfl rfl) st_X10_stackAt pr_X10_stackAt
theorem r_X10_push_12 : IOK WB AD SR FW TB md_X10_push 12 (.invokevirtual 193, 36, 9, 0, []) := io_virt (by decide +kernel) tb_X8_store (wb_5 132 rfl rfl) in_X8_store se_X8_store ⟨_, rfl, rfl⟩ pr_X8_store (by decide)
theorem r_X10_push_15 : IOK WB AD SR FW TB md_X10_push 15 (.aload_n 0, 0, 0, 0, []) := io_plain (by decide +kernel) rfl
theorem r_X10_push_16 : IOK WB AD SR FW TB md_X10_push 16 (.dup, 0, 0, 0, []) := io_plain (by decide +kernel) rfl
theorem r_X10_push_17 : IOK WB AD SR FW TB md_X10_push 17 (.getfield 160, 11, 8, 0, []) := io_get (by decide +kernel) fo_RX10_160
theorem r_X10_push_20 : IOK WB AD SR FW TB md_X10_push 20 (.iconst 1, 0, 0, 0, []) := io_plain (by decide +kernel) rfl
theorem r_X10_push_21 : IOK WB AD SR FW TB md_X10_push 21 (.iadd, 0, 0, 0, []) := io_plain (by decide +kernel) rfl
theorem r_X10_push_22 : IOK WB AD SR FW TB md_X10_push 22 (.putfield 160, 11, 8, 0, []) := io_put (by decide +kernel) fo_RX10_160 po_RX10_0_11_8_0
theorem r_X10_push_25 : IOK WB AD SR FW TB md_X10_push 25 (.aload_n 0, 0, 0, 0, []) := io_plain (by decide +kernel) rfl
theorem r_X10_push_26 : IOK WB AD SR FW TB md_X10_push 26 (.getfield 160, 11, 8, 0, []) := io_get (by decide +kernel) fo_RX10_160
theorem r_X10_push_29 : IOK WB AD SR FW TB md_X10_push 29 (.ireturn, 0, 0, 0, []) := io_plain (by decide +kernel) rfl
set_option maxRecDepth 100000 in
theorem ok_X10_push_0 : ∀ q ∈ tl_X10_push, IOK WB AD SR FW TB md_X10_push q.1 q.2 := List.forall_mem_cons.mpr ⟨r_X10_push_0, List.forall_mem_cons.mpr ⟨r_X10_push_1, List.forall_mem_cons.mpr ⟨r_X10_push_4, List.forall_mem_cons.mpr ⟨r_X10_push_5, List.forall_mem_cons.mpr ⟨r_X10_push_6, List.forall_mem_cons.mpr ⟨r_X10_push_9, List.forall_mem_cons.mpr ⟨r_X10_push_12, List.forall_mem_cons.mpr ⟨r_X10_push_15, List.forall_mem_cons.mpr ⟨r_X10_push_16, List.forall_mem_cons.mpr ⟨r_X10_push_17, List.forall_mem_cons.mpr ⟨r_X10_push_20, List.forall_mem_cons.mpr ⟨r_X10_push_21, List.forall_mem_cons.mpr ⟨r_X10_push_22, List.forall_mem_cons.mpr ⟨r_X10_push_25, List.forall_mem_cons.mpr ⟨r_X10_push_26, List.forall_mem_cons.mpr ⟨r_X10_push_29, fun _ h => absurd h List.not_mem_nil⟩⟩⟩⟩⟩⟩⟩⟩⟩⟩⟩⟩⟩⟩⟩⟩
set_option maxRecDepth 100000 in
theorem tq_X10_push_0 : tf_X10_push = tl_X10_push.map (fun q => (q.1, stepOf NPf md_X10_push q.2)) := rfl
theorem ro_X10_push : RowsOK (md_X10_push, tl_X10_push) tf_X10_push := ⟨tq_X10_push_0, ok_X10_push_0⟩
theorem r_X7_addOperator_0 : IOK WB AD SR FW TB md_X7_addOperator 0 (.aload_n 0, 0, 0, 0, []) := io_plain (by decide +kernel) rfl
theorem r_X7_addOperator_1 : IOK WB AD SR FW TB md_X7_addOperator 1 (.getfield 49, 8, 1, 0, []) := io_get (by decide +kernel) fo_RX7_49
theorem r_X7_addOperator_4 : IOK WB AD SR FW TB md_X7_addOperator 4 (.istore 4, 0, 0, 0, []) := io_plain (by decide +kernel) rfl
theorem r_X7_addOperator_6 : IOK WB AD SR FW TB md_X7_addOperator 6 (.aload_n 0, 0, 0, 0, []) := io_plain (by decide +kernel) rfl
theorem r_X7_addOperator_7 : IOK WB AD SR FW TB md_X7_addOperator 7 (.getfield 18, 8, 4, 2, []) := io_get (by decide +kernel) fo_RX7_18
theorem r_X7_addOperator_10 : IOK WB AD SR FW TB md_X7_addOperator 10 (.iload 4, 0, 0, 0, []) := io_plain (by decide +kernel) rfl
theorem r_X7_addOperator_12 : IOK WB AD SR FW TB md_X7_addOperator 12 (.iload_n 1, 0, 0, 0, []) := io_plain (by decide +kernel) rfl
theorem r_X7_addOperator_13 : IOK WB AD SR FW TB md_X7_addOperator 13 (.iastore, 0, 0, 0, []) := io_plain (by decide +kernel) rfl
theorem r_X7_addOperator_14 : IOK WB AD SR FW TB md_X7_addOperator 14 (.aload_n 0, 0, 0, 0, []) := io_plain (by decide +kernel) rfl
theorem r_X7_addOperator_15 : IOK WB AD SR FW TB md_X7_addOperator 15 (.getfield 21, 8, 5, 2, []) := io_get (by decide +kernel) fo_RX7_21
theorem r_X7_addOperator_18 : IOK WB AD SR FW TB md_X7_addOperator 18 (.iload 4, 0, 0, 0, []) := io_plain (by decide +kernel) rfl
theorem r_X7_addOperator_20 : IOK WB AD SR FW TB md_X7_addOperator 20 (.iload_n 2, 0, 0, 0, []) := io_plain (by decide +kernel) rfl
theorem r_X7_addOperator_21 : IOK WB AD SR FW TB md_X7_addOperator 21 (.iastore, 0, 0, 0, []) := io_plain (by decide +kernel) rfl
theorem r_X7_addOperator_22 : IOK WB AD SR FW TB md_X7_addOperator 22 (.aload_n 0, 0, 0, 0, []) := io_plain (by decide +kernel) rfl
theorem r_X7_addOperator_23 : IOK WB AD SR FW TB md_X7_addOperator 23 (.getfield 24, 8, 6, 2, []) := io_get (by decide +kernel) fo_RX7_24
theorem r_X7_addOperator_26 : IOK WB AD SR FW TB md_X7_addOperator 26 (.iload 4, 0, 0, 0, []) := io_plain (by decide +kernel) rfl
theorem r_X7_addOperator_28 : IOK WB AD SR FW TB md_X7_addOperator 28 (.iload_n 3, 0, 0, 0, []) := io_plain (by decide +kernel) rfl
theorem r_X7_addOperator_29 : IOK WB AD SR FW TB md_X7_addOperator 29 (.iastore, 0, 0, 0, []) := io_plain (by decide +kernel) rfl
theorem r_X7_addOperator_30 : IOK WB AD SR FW TB md_X7_addOperator 30 (.aload_n 0, 0, 0, 0, []) := io_plain (by decide +kernel) rfl
theorem r_X7_addOperator_31 : IOK WB AD SR FW TB md_X7_addOperator 31 (.getfield 36, 8, 10, 2, []) := io_get (by decide +kernel) fo_RX7_36
theorem r_X7_addOperator_34 : IOK WB AD SR FW TB md_X7_addOperator 34 (.iload 4, 0, 0, 0, []) := io_plain (by decide +kernel) rfl
theorem r_X7_addOperator_36 : IOK WB AD SR FW TB md_X7_addOperator 36 (.iload 4, 0, 0, 0, []) := io_plain (by decide +kernel) rfl
theorem r_X7_addOperator_38 : IOK WB AD SR FW TB md_X7_addOperator 38 (.iastore, 0, 0, 0, []) := io_plain (by decide +kernel) rfl
theorem r_X7_addOperator_39 : IOK WB AD SR FW TB md_X7_addOperator 39 (.aload_n 0, 0, 0, 0, []) := io_plain (by decide +kernel) rfl
theorem r_X7_addOperator_40 : IOK WB AD SR FW TB md_X7_addOperator 40 (.dup, 0, 0, 0, []) := io_plain (by decide +kernel) rfl
theorem r_X7_addOperator_41 : IOK WB AD SR FW TB md_X7_addOperator 41 (.getfield 49, 8, 1, 0, []) := io_get (by decide +kernel) fo_RX7_49
theorem r_X7_addOperator_44 : IOK WB AD SR FW TB md_X7_addOperator 44 (.iconst 1, 0, 0, 0, []) := io_plain (by decide +kernel) rfl
theorem r_X7_addOperator_45 : IOK WB AD SR FW TB md_X7_addOperator 45 (.iadd, 0, 0, 0, []) := io_plain (by decide +kernel) rfl
theorem r_X7_addOperator_46 : IOK WB AD SR FW TB md_X7_addOperator 46 (.putfield 49, 8, 1, 0, []) := io_put (by decide +kernel) fo_RX7_49 po_RX7_0_8_1_0
theorem r_X7_addOperator_49 : IOK WB AD SR FW TB md_X7_addOperator 49 (.iload 4, 0, 0, 0, []) := io_plain (by decide +kernel) rfl
theorem r_X7_addOperator_51 : IOK WB AD SR FW TB md_X7_addOperator 51 (.ireturn, 0, 0, 0, []) := io_plain (by decide +kernel) rfl
set_option maxRecDepth 100000 in
theorem ok_X7_addOperator_0 : ∀ q ∈ tl_X7_addOperator, IOK WB AD SR FW TB md_X7_addOperator q.1 q.2 := List.forall_mem_cons.mpr ⟨r_X7_addOperator_0, List.forall_mem_cons.mpr ⟨r_X7_addOperator_1, List.forall_mem_cons.mpr ⟨r_X7_addOperator_4, List.forall_mem_cons.mpr ⟨r_X7_addOperator_6, List.forall_mem_cons.mpr ⟨r_X7_addOperator_7, List.forall_mem_cons.mpr ⟨r_X7_addOperator_10, List.forall_mem_cons.mpr ⟨r_X7_addOperator_12, List.forall_mem_cons.mpr ⟨r_X7_addOperator_13, List.forall_mem_cons.mpr ⟨r_X7_addOperator_14, List.forall_mem_cons.mpr ⟨r_X7_addOperator_15, List.forall_mem_cons.mpr ⟨r_X7_addOperator_18, List.forall_mem_cons.mpr ⟨r_X7_addOperator_20, List.forall_mem_cons.mpr ⟨r_X7_addOperator_21, List.forall_mem_cons.mpr ⟨r_X7_addOperator_22, List.forall_mem_cons.mpr ⟨r_X7_addOperator_23, List.forall_mem_cons.mpr ⟨r_X7_addOperator_26, List.forall_mem_cons.mpr ⟨r_X7_addOperator_28, List.forall_mem_cons.mpr ⟨r_X7_addOperator_29, List.forall_mem_cons.mpr ⟨r_X7_addOperator_30, List.forall_mem_cons.mpr ⟨r_X7_addOperator_31, List.forall_mem_cons.mpr ⟨r_X7_addOperator_34, List.forall_mem_cons.mpr ⟨r_X7_addOperator_36, List.forall_mem_cons.mpr ⟨r_X7_addOperator_38, List.forall_mem_cons.mpr ⟨r_X7_addOperator_39, List.forall_mem_cons.mpr ⟨r_X7_addOperator_40, List.forall_mem_cons.mpr ⟨r_X7_addOperator_41, List.forall_mem_cons.mpr ⟨r_X7_addOperator_44, List.forall_mem_cons.mpr ⟨r_X7_addOperator_45, List.forall_mem_cons.mpr ⟨r_X7_addOperator_46, List.forall_mem_cons.mpr ⟨r_X7_addOperator_49, List.forall_mem_cons.mpr ⟨r_X7_addOperator_51, fun _ h => absurd h List.not_mem_nil⟩⟩⟩⟩⟩⟩⟩⟩⟩⟩⟩⟩⟩⟩⟩⟩⟩⟩⟩⟩⟩⟩⟩⟩⟩⟩⟩⟩⟩⟩⟩
set_option maxRecDepth 100000 in
theorem tq_X7_addOperator_0 : tf_X7_addOperator = tl_X7_addOperator.map (fun q => (q.1, stepOf NPf md_X7_addOperator q.2)) := rfl
theorem ro_X7_addOperator : RowsOK (md_X7_addOperator, tl_X7_addOperator) tf_X7_addOperator := ⟨tq_X7_addOperator_0, ok_X7_addOperator_0⟩
theorem r_X8_store_0 : IOK WB AD SR FW TB md_X8_store 0 (.aload_n 0, 0, 0, 0, []) := io_plain (by decide +kernel) rfl
theorem r_X8_store_1 : IOK WB AD SR FW TB md_X8_store 1 (.getfield 9, 9, 1, 2, []) := io_get (by decide +kernel) fo_RX8_9
theorem r_X8_store_4 : IOK WB AD SR FW TB md_X8_store 4 (.iload_n 1, 0, 0, 0, []) := io_plain (by decide +kernel) rfl
theorem r_X8_store_5 : IOK WB AD SR FW TB md_X8_store 5 (.aload_n 0, 0, 0, 0, []) := io_plain (by decide +kernel) rfl
theorem r_X8_store_6 : IOK WB AD SR FW TB md_X8_store 6 (.getfield 9, 9, 1, 2, []) := io_get (by decide +kernel) fo_RX8_9
theorem r_X8_store_9 : IOK WB AD SR FW TB md_X8_store 9 (.iload_n 2, 0, 0, 0, []) := io_plain (by decide +kernel) rfl
theorem r_X8_store_10 : IOK WB AD SR FW TB md_X8_store 10 (.aload_n 0, 0, 0, 0, []) := io_plain (by decide +kernel) rfl
theorem r_X8_store_11 : IOK WB AD SR FW TB md_X8_store 11 (.iload_n 1, 0, 0, 0, []) := io_plain (by decide +kernel) rfl
theorem r_X8_store_12 : IOK WB AD SR FW TB md_X8_store 12 (.invokevirtual 57, 26, 9, 0, []) := io_virt (by decide +kernel) tb_X8_end (wb_3 170 rfl rfl) in_X8_end se_X8_end ⟨_, rfl, rfl⟩ pr_X8_end (by decide)
theorem r_X8_store_15 : IOK WB AD SR FW TB md_X8_store 15 (.iload_n 1, 0, 0, 0, []) := io_plain (by decide +kernel) rfl
theorem r_X8_store_16 : IOK WB AD SR FW TB md_X8_store 16 (.isub, 0, 0, 0, []) := io_plain (by decide +kernel) rfl
theorem r_X8_store_17 : IOK WB AD SR FW TB md_X8_store 17 (.invokestatic 61, 1000, 0, 0, []) := io_copy (by decide +kernel) (wb_3 184 rfl rfl) cp_1 cp_2 cp_3
theorem r_X8_store_20 : IOK WB AD SR FW TB md_X8_store 20 (.return_, 0, 0, 0, []) := io_void (by decide +kernel) rfl
set_option maxRecDepth 100000 in
theorem ok_X8_store_0 : ∀ q ∈ tl_X8_store, IOK WB AD SR FW TB md_X8_store q.1 q.2 := List.forall_mem_cons.mpr ⟨r_X8_store_0, List.forall_mem_cons.mpr ⟨r_X8_store_1, List.forall_mem_cons.mpr ⟨r_X8_store_4, List.forall_mem_cons.mpr ⟨r_X8_store_5, List.forall_mem_cons.mpr ⟨r_X8_store_6, List.forall_mem_cons.mpr ⟨r_X8_store_9, List.forall_mem_cons.mpr ⟨r_X8_store_10, List.forall_mem_cons.mpr ⟨r_X8_store_11, List.forall_mem_cons.mpr ⟨r_X8_store_12, List.forall_mem_cons.mpr ⟨r_X8_store_15, List.forall_mem_cons.mpr ⟨r_X8_store_16, List.forall_mem_cons.mpr ⟨r_X8_store_17, List.forall_mem_cons.mpr ⟨r_X8_store_20, fun _ h => absurd h List.not_mem_nil⟩⟩⟩⟩⟩⟩⟩⟩⟩⟩⟩⟩⟩
set_option maxRecDepth 100000 in
theorem tq_X8_store_0 : tf_X8_store = tl_X8_store.map (fun q => (q.1, stepOf NPf md_X8_store q.2)) := rfl
theorem ro_X8_store : RowsOK (md_X8_store, tl_X8_store) tf_X8_store := ⟨tq_X8_store_0, ok_X8_store_0⟩
theorem r_X10_term_0 : IOK WB AD SR FW TB md_X10_term 0 (.iload_n 1, 0, 0, 0, []) := io_plain (by decide +kernel) rfl
theorem r_X10_term_1 : IOK WB AD SR FW TB md_X10_term 1 (.invokestatic 108, 39, 11, 0, []) := io_stat (by decide +kernel) tb_X10_isVariableNumber (wb_5 60 rfl rfl) st_X10_isVariableNumber pr_X10_isVariableNumber
theorem r_X10_term_4 : IOK WB AD SR FW TB md_X10_term 4 (.ifCond .ne 13, 0, 0, 0, []) := io_plain (by decide +kernel) rfl
set_option maxRecDepth 100000 in
theorem r_X10_term_7 : IOK WB AD SR FW TB md_X10_term 7 (.new 111, 102, 113, 115, []) := io_thx 2 rfl (thk_mk RX10 rfl 111 113 115 2 "there is no such variable" false (List.mem_of_getElem? (i := 5) rfl) (by decide) (by decide +kernel) (by decide +kernel) ⟨by decide +kernel, by decide +kernel, by decide +kernel⟩ (wb_5 63 rfl rfl) (wb_1 23 rfl rfl) at_RX10_115_2 rfl) (by decide +kernel)
theorem r_X10_term_10 : IOK WB AD SR FW TB md_X10_term 10 (.dup, 0, 0, 0, []) := io_plain (by decide +kernel) rfl
theorem r_X10_term_17 : IOK WB AD SR FW TB md_X10_term 17 (.aload_n 0, 0, 0, 0, []) := io_plain (by decide +kernel) rfl
theorem r_X10_term_18 : IOK WB AD SR FW TB md_X10_term 18 (.getfield 160, 11, 8, 0, []) := io_get (by decide +kernel) fo_RX10_160
theorem r_X10_term_21 : IOK WB AD SR FW TB md_X10_term 21 (.bipush 10, 0, 0, 0, []) := io_plain (by decide +kernel) rfl
theorem r_X10_term_23 : IOK WB AD SR FW TB md_X10_term 23 (.if_icmp .lt 13, 0, 0, 0, []) := io_plain (by decide +kernel) rfl
theorem r_X10_term_36 : IOK WB AD SR FW TB md_X10_term 36 (.aload_n 0, 0, 0, 0, []) := io_plain (by decide +kernel) rfl
theorem r_X10_term_37 : IOK WB AD SR FW TB md_X10_term 37 (.iload_n 1, 0, 0, 0, []) := io_plain (by decide +kernel) rfl
theorem r_X10_term_38 : IOK WB AD SR FW TB md_X10_term 38 (.invokevirtual 165, 34, 11, 0, []) := io_virt (by decide +kernel) tb_X10_push (wb_5 125 rfl rfl) in_X10_push se_X10_push ⟨_, rfl, rfl⟩ pr_X10_push (by decide)
theorem r_X10_term_41 : IOK WB AD SR FW TB md_X10_term 41 (.ireturn, 0, 0, 0, []) := io_plain (by decide +kernel) rfl
set_option maxRecDepth 100000 in
theorem ok_X10_term_0 : ∀ q ∈ tl_X10_term, IOK WB AD SR FW TB md_X10_term q.1 q.2 := List.forall_mem_cons.mpr ⟨r_X10_term_0, List.forall_mem_cons.mpr ⟨r_X10_term_1, List.forall_mem_cons.mpr ⟨r_X10_term_4, List.forall_mem_cons.mpr ⟨r_X10_term_7, List.forall_mem_cons.mpr ⟨r_X10_term_10, List.forall_mem_cons.mpr ⟨r_X10_term_17, List.forall_mem_cons.mpr ⟨r_X10_term_18, List.forall_mem_cons.mpr ⟨r_X10_term_21, List.forall_mem_cons.mpr ⟨r_X10_term_23, List.forall_mem_cons.mpr ⟨r_X10_term_36, List.forall_mem_cons.mpr ⟨r_X10_term_37, List.forall_mem_cons.mpr ⟨r_X10_term_38, List.forall_mem_cons.mpr ⟨r_X10_term_41, fun _ h => absurd h List.not_mem_nil⟩⟩⟩⟩⟩⟩⟩⟩⟩⟩⟩⟩⟩
set_option maxRecDepth 100000 in
theorem tq_X10_term_0 : tf_X10_term = tl_X10_term.map (fun q => (q.1, stepOf NPf md_X10_term q.2)) := rfl
theorem ro_X10_term : RowsOK (md_X10_term, tl_X10_term) tf_X10_term := ⟨tq_X10_term_0, ok_X10_term_0⟩
theorem r_L_term_0 : IOK WB AD SR FW TB md_L_term 0 (.aload_n 2, 0, 0, 0, []) := io_plain (by decide +kernel) rfl
theorem r_L_term_1 : IOK WB AD SR FW TB md_L_term 1 (.iconst 0, 0, 0, 0, []) := io_plain (by decide +kernel) rfl
theorem r_L_term_2 : IOK WB AD SR FW TB md_L_term 2 (.aload_n 0, 0, 0, 0, []) := io_plain (by decide +kernel) rfl
theorem r_L_term_3 : IOK WB AD SR FW TB md_L_term 3 (.iload_n 1, 0, 0, 0, []) := io_plain (by decide +kernel) rfl
theorem r_L_term_4 : IOK WB AD SR FW TB md_L_term 4 (.invokevirtual 35, 37, 11, 0, []) := io_virt (by decide +kernel) tb_X10_term (wb_5 120 rfl rfl) in_X10_term se_X10_term ⟨_, rfl, rfl⟩ pr_X10_term (by decide)
theorem r_L_term_7 : IOK WB AD SR FW TB md_L_term 7 (.i2l, 0, 0, 0, []) := io_plain (by decide +kernel) rfl
theorem r_L_term_8 : IOK WB AD SR FW TB md_L_term 8 (.lastore, 0, 0, 0, []) := io_plain (by decide +kernel) rfl
theorem r_L_term_9 : IOK WB AD SR FW TB md_L_term 9 (.goto 9, 0, 0, 0, []) := io_plain (by decide +kernel) rfl
theorem r_L_term_12 : IOK WB AD SR FW TB md_L_term 12 (.astore_n 3, 0, 0, 0, []) := io_plain (by decide +kernel) rfl
theorem r_L_term_13 : IOK WB AD SR FW TB md_L_term 13 (.iconst 1, 0, 0, 0, []) := io_plain (by decide +kernel) rfl
theorem r_L_term_14 : IOK WB AD SR FW TB md_L_term 14 (.ireturn, 0, 0, 0, []) := io_plain (by decide +kernel) rfl
theorem r_L_term_18 : IOK WB AD SR FW TB md_L_term 18 (.iconst 0, 0, 0, 0, []) := io_plain (by decide +kernel) rfl
theorem r_L_term_19 : IOK WB AD SR FW TB md_L_term 19 (.ireturn, 0, 0, 0, []) := io_plain (by decide +kernel) rfl
set_option maxRecDepth 100000 in
theorem ok_L_term_0 : ∀ q ∈ tl_L_term, IOK WB AD SR FW TB md_L_term q.1 q.2 := List.forall_mem_cons.mpr ⟨r_L_term_0, List.forall_mem_cons.mpr ⟨r_L_term_1, List.forall_mem_cons.mpr ⟨r_L_term_2, List.forall_mem_cons.mpr ⟨r_L_term_3, List.forall_mem_cons.mpr ⟨r_L_term_4, List.forall_mem_cons.mpr ⟨r_L_term_7, List.forall_mem_cons.mpr ⟨r_L_term_8, List.forall_mem_cons.mpr ⟨r_L_term_9, List.forall_mem_cons.mpr ⟨r_L_term_12, List.forall_mem_cons.mpr ⟨r_L_term_13, List.forall_mem_cons.mpr ⟨r_L_term_14, List.forall_mem_cons.mpr ⟨r_L_term_18, List.forall_mem_cons.mpr ⟨r_L_term_19, fun _ h => absurd h List.not_mem_nil⟩⟩⟩⟩⟩⟩⟩⟩⟩⟩⟩⟩⟩
set_option maxRecDepth 100000 in
theorem tq_L_term_0 : tf_L_term = tl_L_term.map (fun q => (q.1, stepOf NPf md_L_term q.2)) := rfl
theorem ro_L_term : RowsOK (md_L_term, tl_L_term) tf_L_term := ⟨tq_L_term_0, ok_L_term_0⟩
theorem r_X10_isVariableNumber_0 : IOK WB AD SR FW TB md_X10_isVariableNumber 0 (.iload_n 0, 0, 0, 0, []) := io_plain (by decide +kernel) rfl
theorem r_X10_isVariableNumber_1 : IOK WB AD SR FW TB md_X10_isVariableNumber 1 (.ifCond .lt 13, 0, 0, 0, []) := io_plain (by decide +kernel) rfl
theorem r_X10_isVariableNumber_4 : IOK WB AD SR FW TB md_X10_isVariableNumber 4 (.iload_n 0, 0, 0, 0, []) := io_plain (by decide +kernel) rfl
theorem r_X10_isVariableNumber_5 : IOK WB AD SR FW TB md_X10_isVariableNumber 5 (.bipush 10, 0, 0, 0, []) := io_plain (by decide +kernel) rfl
theorem r_X10_isVariableNumber_7 : IOK WB AD SR FW TB md_X10_isVariableNumber 7 (.if_icmp .ge 7, 0, 0, 0, []) := io_plain (by decide +kernel) rfl
theorem r_X10_isVariableNumber_10 : IOK WB AD SR FW TB md_X10_isVariableNumber 10 (.iconst 1, 0, 0, 0, []) := io_plain (by decide +kernel) rfl
theorem r_X10_isVariableNumber_11 : IOK WB AD SR FW TB md_X10_isVariableNumber 11 (.goto 4, 0, 0, 0, []) := io_plain (by decide +kernel) rfl
theorem r_X10_isVariableNumber_14 : IOK WB AD SR FW TB md_X10_isVariableNumber 14 (.iconst 0, 0, 0, 0, []) := io_plain (by decide +kernel) rfl
theorem r_X10_isVariableNumber_15 : IOK WB AD SR FW TB md_X10_isVariableNumber 15 (.ireturn, 0, 0, 0, []) := io_plain (by decide +kernel) rfl
set_option maxRecDepth 100000 in
theorem ok_X10_isVariableNumber_0 : ∀ q ∈ tl_X10_isVariableNumber, IOK WB AD SR FW TB md_X10_isVariableNumber q.1 q.2 := List.forall_mem_cons.mpr ⟨r_X10_isVariableNumber_0, List.forall_mem_cons.mpr ⟨r_X10_isVariableNumber_1, List.forall_mem_cons.mpr ⟨r_X10_isVariableNumber_4, List.forall_mem_cons.mpr ⟨r_X10_isVariableNumber_5, List.forall_mem_cons.mpr ⟨r_X10_isVariableNumber_7, List.forall_mem_cons.mpr ⟨r_X10_isVariableNumber_10, List.forall_mem_cons.mpr ⟨r_X10_isVariableNumber_11, List.forall_mem_cons.mpr ⟨r_X10_isVariableNumber_14, List.forall_mem_cons.mpr ⟨r_X10_isVariableNumber_15, fun _ h => absurd h List.not_mem_nil⟩⟩⟩⟩⟩⟩⟩⟩⟩
set_option maxRecDepth 100000 in
theorem tq_X10_isVariableNumber_0 : tf_X10_isVariableNumber = tl_X10_isVariableNumber.map (fun q => (q.1, stepOf NPf md_X10_isVariableNumber q.2)) := rfl
theorem ro_X10_isVariableNumber : RowsOK (md_X10_isVariableNumber, tl_X10_isVariableNumber) tf_X10_isVariableNumber := ⟨tq_X10_isVariableNumber_0, ok_X10_isVariableNumber_0⟩
theorem r_X10_tell_0 : IOK WB AD SR FW TB md_X10_tell 0 (.iload_n 2, 0, 0, 0, []) := io_plain (by decide +kernel) rfl
theorem r_X10_tell_1 : IOK WB AD SR FW TB md_X10_tell 1 (.ifCond .eq 7, 0, 0, 0, []) := io_plain (by decide +kernel) rfl
theorem r_X10_tell_4 : IOK WB AD SR FW TB md_X10_tell 4 (.iconst 4, 0, 0, 0, []) := io_plain (by decide +kernel) rfl
theorem r_X10_tell_5 : IOK WB AD SR FW TB md_X10_tell 5 (.goto 4, 0, 0, 0, []) := io_plain (by decide +kernel) rfl
theorem r_X10_tell_8 : IOK WB AD SR FW TB md_X10_tell 8 (.iconst 2, 0, 0, 0, []) := io_plain (by decide +kernel) rfl
theorem r_X10_tell_9 : IOK WB AD SR FW TB md_X10_tell 9 (.istore_n 3, 0, 0, 0, []) := io_plain (by decide +kernel) rfl
theorem r_X10_tell_10 : IOK WB AD SR FW TB md_X10_tell 10 (.aload_n 0, 0, 0, 0, []) := io_plain (by decide +kernel) rfl
theorem r_X10_tell_11 : IOK WB AD SR FW TB md_X10_tell 11 (.getfield 160, 11, 8, 0, []) := io_get (by decide +kernel) fo_RX10_160
theorem r_X10_tell_14 : IOK WB AD SR FW TB md_X10_tell 14 (.iload_n 3, 0, 0, 0, []) := io_plain (by decide +kernel) rfl
theorem r_X10_tell_15 : IOK WB AD SR FW TB md_X10_tell 15 (.if_icmp .ge 13, 0, 0, 0, []) := io_plain (by decide +kernel) rfl
set_option maxRecDepth 100000 in
theorem r_X10_tell_18 : IOK WB AD SR FW TB md_X10_tell 18 (.new 82, 100, 250, 86, []) := io_thx 0 rfl (thk_mk RX10 rfl 82 250 86 0 "there are not so many terms" false (List.mem_of_getElem? (i := 6) rfl) (by decide) (by decide +kernel) (by decide +kernel) ⟨by decide +kernel, by decide +kernel, by decide +kernel⟩ (wb_4 188 rfl rfl) (wb_1 21 rfl rfl) at_RX10_86_0 rfl) (by decide +kernel)
theorem r_X10_tell_21 : IOK WB AD SR FW TB md_X10_tell 21 (.dup, 0, 0, 0, []) := io_plain (by decide +kernel) rfl
theorem r_X10_tell_28 : IOK WB AD SR FW TB md_X10_tell 28 (.aload_n 0, 0, 0, 0, []) := io_plain (by decide +kernel) rfl
set_option maxRecDepth 100000 in
theorem ok_X10_tell_0 : ∀ q ∈ tl_X10_tell, IOK WB AD SR FW TB md_X10_tell q.1 q.2 := List.forall_mem_cons.mpr ⟨r_X10_tell_0, List.forall_mem_cons.mpr ⟨r_X10_tell_1, List.forall_mem_cons.mpr ⟨r_X10_tell_4, List.forall_mem_cons.mpr ⟨r_X10_tell_5, List.forall_mem_cons.mpr ⟨r_X10_tell_8, List.forall_mem_cons.mpr ⟨r_X10_tell_9, List.forall_mem_cons.mpr ⟨r_X10_tell_10, List.forall_mem_cons.mpr ⟨r_X10_tell_11, List.forall_mem_cons.mpr ⟨r_X10_tell_14, List.forall_mem_cons.mpr ⟨r_X10_tell_15, List.forall_mem_cons.mpr ⟨r_X10_tell_18, List.forall_mem_cons.mpr ⟨r_X10_tell_21, List.forall_mem_cons.mpr ⟨r_X10_tell_28, fun _ h => absurd h List.not_mem_nil⟩⟩⟩⟩⟩⟩⟩⟩⟩⟩⟩⟩⟩
set_option maxRecDepth 100000 in
theorem tq_X10_tell_0 : tf_X10_tell = tl_X10_tell.map (fun q => (q.1, stepOf NPf md_X10_tell q.2)) := rfl
theorem ro_X10_tell : RowsOK (md_X10_tell, tl_X10_tell) tf_X10_tell := ⟨tq_X10_tell_0, ok_X10_tell_0⟩
theorem r_L_tell_0 : IOK WB AD SR FW TB md_L_tell 0 (.aload_n 3, 0, 0, 0, []) := io_plain (by decide +kernel) rfl
theorem r_L_tell_1 : IOK WB AD SR FW TB md_L_tell 1 (.iconst 0, 0, 0, 0, []) := io_plain (by decide +kernel) rfl
theorem r_L_tell_2 : IOK WB AD SR FW TB md_L_tell 2 (.aload_n 0, 0, 0, 0, []) := io_plain (by decide +kernel) rfl
theorem r_L_tell_3 : IOK WB AD SR FW TB md_L_tell 3 (.iload_n 1, 0, 0, 0, []) := io_plain (by decide +kernel) rfl
theorem r_L_tell_4 : IOK WB AD SR FW TB md_L_tell 4 (.iload_n 2, 0, 0, 0, []) := io_plain (by decide +kernel) rfl
theorem r_L_tell_5 : IOK WB AD SR FW TB md_L_tell 5 (.invokevirtual 63, 40, 11, 0, []) := io_virt (by decide +kernel) tb_X10_tell (wb_5 229 rfl rfl) in_X10_tell se_X10_tell ⟨_, rfl, rfl⟩ pr_X10_tell (by decide)
theorem r_L_tell_13 : IOK WB AD SR FW TB md_L_tell 13 (.astore 4, 0, 0, 0, []) := io_plain (by decide +kernel) rfl
theorem r_L_tell_15 : IOK WB AD SR FW TB md_L_tell 15 (.iconst 1, 0, 0, 0, []) := io_plain (by decide +kernel) rfl
theorem r_L_tell_16 : IOK WB AD SR FW TB md_L_tell 16 (.ireturn, 0, 0, 0, []) := io_plain (by decide +kernel) rfl
set_option maxRecDepth 100000 in
theorem ok_L_tell_0 : ∀ q ∈ tl_L_tell, IOK WB AD SR FW TB md_L_tell q.1 q.2 := List.forall_mem_cons.mpr ⟨r_L_tell_0, List.forall_mem_cons.mpr ⟨r_L_tell_1, List.forall_mem_cons.mpr ⟨r_L_tell_2, List.forall_mem_cons.mpr ⟨r_L_tell_3, List.forall_mem_cons.mpr ⟨r_L_tell_4, List.forall_mem_cons.mpr ⟨r_L_tell_5, List.forall_mem_cons.mpr ⟨r_L_tell_13, List.forall_mem_cons.mpr ⟨r_L_tell_15, List.forall_mem_cons.mpr ⟨r_L_tell_16, fun _ h => absurd h List.not_mem_nil⟩⟩⟩⟩⟩⟩⟩⟩⟩
set_option maxRecDepth 100000 in
theorem tq_L_tell_0 : tf_L_tell = tl_L_tell.map (fun q => (q.1, stepOf NPf md_L_tell q.2)) := rfl
theorem ro_L_tell : RowsOK (md_L_tell, tl_L_tell) tf_L_tell := ⟨tq_L_tell_0, ok_L_tell_0⟩
theorem r_Jx4a65c_grow_d5877_0 : IOK WB AD SR FW TB md_Jx4a65c_grow_d5877 0 (.aload_n 0, 0, 0, 0, []) := io_plain (by decide +kernel) rfl
theorem r_Jx4a65c_grow_d5877_1 : IOK WB AD SR FW TB md_Jx4a65c_grow_d5877 1 (.aload_n 0, 0, 0, 0, []) := io_plain (by decide +kernel) rfl
theorem r_Jx4a65c_grow_d5877_2 : IOK WB AD SR FW TB md_Jx4a65c_grow_d5877 2 (.getfield 48, 0, 2, 0, []) := io_get (by decide +kernel) fo_RJx4a65c_48
theorem r_Jx4a65c_grow_d5877_5 : IOK WB AD SR FW TB md_Jx4a65c_grow_d5877 5 (.iconst 1, 0, 0, 0, []) := io_plain (by decide +kernel) rfl
theorem r_Jx4a65c_grow_d5877_6 : IOK WB AD SR FW TB md_Jx4a65c_grow_d5877 6 (.iadd, 0, 0, 0, []) := io_plain (by decide +kernel) rfl
theorem r_Jx4a65c_grow_d5877_7 : IOK WB AD SR FW TB md_Jx4a65c_grow_d5877 7 (.invokevirtual 69, 29, 0, 0, []) := io_virt (by decide +kernel) tb_Jx4a65c_grow_92f84 (wb_9 26 rfl rfl) in_Jx4a65c_grow_92f84 se_Jx4a65c_grow_92f84 ⟨_, rfl, rfl⟩ pr_Jx4a65c_grow_92f84 (by decide)
theorem r_Jx4a65c_grow_d5877_10 : IOK WB AD SR FW TB md_Jx4a65c_grow_d5877 10 (.areturn, 0, 0, 0, []) := io_aret (by decide +kernel) rfl
set_option maxRecDepth 100000 in
theorem ok_Jx4a65c_grow_d5877_0 : ∀ q ∈ tl_Jx4a65c_grow_d5877, IOK WB AD SR FW TB md_Jx4a65c_grow_d5877 q.1 q.2 := List.forall_mem_cons.mpr ⟨r_Jx4a65c_grow_d5877_0, List.forall_mem_cons.mpr ⟨r_Jx4a65c_grow_d5877_1, List.forall_mem_cons.mpr ⟨r_Jx4a65c_grow_d5877_2, List.forall_mem_cons.mpr ⟨r_Jx4a65c_grow_d5877_5, List.forall_mem_cons.mpr ⟨r_Jx4a65c_grow_d5877_6, List.forall_mem_cons.mpr ⟨r_Jx4a65c_grow_d5877_7, List.forall_mem_cons.mpr ⟨r_Jx4a65c_grow_d5877_10, fun _ h => absurd h List.not_mem_nil⟩⟩⟩⟩⟩⟩⟩
set_option maxRecDepth 100000 in
theorem tq_Jx4a65c_grow_d5877_0 : tf_Jx4a65c_grow_d5877 = tl_Jx4a65c_grow_d5877.map (fun q => (q.1, stepOf NPf md_Jx4a65c_grow_d5877 q.2)) := rfl
theorem ro_Jx4a65c_grow_d5877 : RowsOK (md_Jx4a65c_grow_d5877, tl_Jx4a65c_grow_d5877) tf_Jx4a65c_grow_d5877 := ⟨tq_Jx4a65c_grow_d5877_0, ok_Jx4a65c_grow_d5877_0⟩
theorem r_Jx4a65c_isEmpty_aae02_0 : IOK WB AD SR FW TB md_Jx4a65c_isEmpty_aae02 0 (.aload_n 0, 0, 0, 0, []) := io_plain (by decide +kernel) rfl
theorem r_Jx4a65c_isEmpty_aae02_1 : IOK WB AD SR FW TB md_Jx4a65c_isEmpty_aae02 1 (.getfield 48, 0, 2, 0, []) := io_get (by decide +kernel) fo_RJx4a65c_48
theorem r_Jx4a65c_isEmpty_aae02_4 : IOK WB AD SR FW TB md_Jx4a65c_isEmpty_aae02 4 (.ifCond .ne 7, 0, 0, 0, []) := io_plain (by decide +kernel) rfl
theorem r_Jx4a65c_isEmpty_aae02_7 : IOK WB AD SR FW TB md_Jx4a65c_isEmpty_aae02 7 (.iconst 1, 0, 0, 0, []) := io_plain (by decide +kernel) rfl
theorem r_Jx4a65c_isEmpty_aae02_8 : IOK WB AD SR FW TB md_Jx4a65c_isEmpty_aae02 8 (.goto 4, 0, 0, 0, []) := io_plain (by decide +kernel) rfl
theorem r_Jx4a65c_isEmpty_aae02_12 : IOK WB AD SR FW TB md_Jx4a65c_isEmpty_aae02 12 (.ireturn, 0, 0, 0, []) := io_plain (by decide +kernel) rfl
set_option maxRecDepth 100000 in
theorem ok_Jx4a65c_isEmpty_aae02_0 : ∀ q ∈ tl_Jx4a65c_isEmpty_aae02, IOK WB AD SR FW TB md_Jx4a65c_isEmpty_aae02 q.1 q.2 := List.forall_mem_cons.mpr ⟨r_Jx4a65c_isEmpty_aae02_0, List.forall_mem_cons.mpr ⟨r_Jx4a65c_isEmpty_aae02_1, List.forall_mem_cons.mpr ⟨r_Jx4a65c_isEmpty_aae02_4, List.forall_mem_cons.mpr ⟨r_Jx4a65c_isEmpty_aae02_7, List.forall_mem_cons.mpr ⟨r_Jx4a65c_isEmpty_aae02_8, List.forall_mem_cons.mpr ⟨r_Jx4a65c_isEmpty_aae02_12, fun _ h => absurd h List.not_mem_nil⟩⟩⟩⟩⟩⟩
set_option maxRecDepth 100000 in
theorem tq_Jx4a65c_isEmpty_aae02_0 : tf_Jx4a65c_isEmpty_aae02 = tl_Jx4a65c_isEmpty_aae02.map (fun q => (q.1, stepOf NPf md_Jx4a65c_isEmpty_aae02 q.2)) := rfl
theorem ro_Jx4a65c_isEmpty_aae02 : RowsOK (md_Jx4a65c_isEmpty_aae02, tl_Jx4a65c_isEmpty_aae02) tf_Jx4a65c_isEmpty_aae02 := ⟨tq_Jx4a65c_isEmpty_aae02_0, ok_Jx4a65c_isEmpty_aae02_0⟩
theorem r_X8_startAnew_0 : IOK WB AD SR FW TB md_X8_startAnew 0 (.aload_n 0, 0, 0, 0, []) := io_plain (by decide +kernel) rfl
theorem r_X8_startAnew_1 : IOK WB AD SR FW TB md_X8_startAnew 1 (.sipush 7500, 0, 0, 0, []) := io_plain (by decide +kernel) rfl
theorem r_X8_startAnew_4 : IOK WB AD SR FW TB md_X8_startAnew 4 (.putfield 15, 9, 2, 0, []) := io_put (by decide +kernel) fo_RX8_15 po_RX8_0_9_2_0
theorem r_X8_startAnew_7 : IOK WB AD SR FW TB md_X8_startAnew 7 (.aload_n 0, 0, 0, 0, []) := io_plain (by decide +kernel) rfl
theorem r_X8_startAnew_8 : IOK WB AD SR FW TB md_X8_startAnew 8 (.iconst 0, 0, 0, 0, []) := io_plain (by decide +kernel) rfl
theorem r_X8_startAnew_9 : IOK WB AD SR FW TB md_X8_startAnew 9 (.putfield 41, 9, 4, 0, []) := io_put (by decide +kernel) fo_RX8_41 po_RX8_0_9_4_0
theorem r_X8_startAnew_12 : IOK WB AD SR FW TB md_X8_startAnew 12 (.aload_n 0, 0, 0, 0, []) := io_plain (by decide +kernel) rfl
theorem r_X8_startAnew_13 : IOK WB AD SR FW TB md_X8_startAnew 13 (.iconst (-1), 0, 0, 0, []) := io_plain (by decide +kernel) rfl
theorem r_X8_startAnew_14 : IOK WB AD SR FW TB md_X8_startAnew 14 (.putfield 31, 9, 8, 0, []) := io_put (by decide +kernel) fo_RX8_31 po_RX8_0_9_8_0
theorem r_X8_startAnew_17 : IOK WB AD SR FW TB md_X8_startAnew 17 (.aload_n 0, 0, 0, 0, []) := io_plain (by decide +kernel) rfl
theorem r_X8_startAnew_18 : IOK WB AD SR FW TB md_X8_startAnew 18 (.iconst 0, 0, 0, 0, []) := io_plain (by decide +kernel) rfl
theorem r_X8_startAnew_19 : IOK WB AD SR FW TB md_X8_startAnew 19 (.putfield 44, 9, 10, 1, []) := io_put (by decide +kernel) fo_RX8_44 po_RX8_0_9_10_1
theorem r_X8_startAnew_22 : IOK WB AD SR FW TB md_X8_startAnew 22 (.aload_n 0, 0, 0, 0, []) := io_plain (by decide +kernel) rfl
theorem r_X8_startAnew_23 : IOK WB AD SR FW TB md_X8_startAnew 23 (.invokevirtual 48, 78, 9, 0, []) := io_virt (by decide +kernel) tb_X8_giveNothing (wb_3 132 rfl rfl) in_X8_giveNothing se_X8_giveNothing ⟨_, rfl, rfl⟩ pr_X8_giveNothing (by decide)
theorem r_X8_startAnew_26 : IOK WB AD SR FW TB md_X8_startAnew 26 (.return_, 0, 0, 0, []) := io_void (by decide +kernel) rfl
set_option maxRecDepth 100000 in
theorem ok_X8_startAnew_0 : ∀ q ∈ tl_X8_startAnew, IOK WB AD SR FW TB md_X8_startAnew q.1 q.2 := List.forall_mem_cons.mpr ⟨r_X8_startAnew_0, List.forall_mem_cons.mpr ⟨r_X8_startAnew_1, List.forall_mem_cons.mpr ⟨r_X8_startAnew_4, List.forall_mem_cons.mpr ⟨r_X8_startAnew_7, List.forall_mem_cons.mpr ⟨r_X8_startAnew_8, List.forall_mem_cons.mpr ⟨r_X8_startAnew_9, List.forall_mem_cons.mpr ⟨r_X8_startAnew_12, List.forall_mem_cons.mpr ⟨r_X8_startAnew_13, List.forall_mem_cons.mpr ⟨r_X8_startAnew_14, List.forall_mem_cons.mpr ⟨r_X8_startAnew_17, List.forall_mem_cons.mpr ⟨r_X8_startAnew_18, List.forall_mem_cons.mpr ⟨r_X8_startAnew_19, List.forall_mem_cons.mpr ⟨r_X8_startAnew_22, List.forall_mem_cons.mpr ⟨r_X8_startAnew_23, List.forall_mem_cons.mpr ⟨r_X8_startAnew_26, fun _ h => absurd h List.not_mem_nil⟩⟩⟩⟩⟩⟩⟩⟩⟩⟩⟩⟩⟩⟩⟩
set_option maxRecDepth 100000 in
theorem tq_X8_startAnew_0 : tf_X8_startAnew = tl_X8_startAnew.map (fun q => (q.1, stepOf NPf md_X8_startAnew q.2)) := rfl
theorem ro_X8_startAnew : RowsOK (md_X8_startAnew, tl_X8_startAnew) tf_X8_startAnew := ⟨tq_X8_startAnew_0, ok_X8_startAnew_0⟩
theorem r_X10_stackAt_0 : IOK WB AD SR FW TB md_X10_stackAt 0 (.bipush 20, 0, 0, 0, []) := io_plain (by decide +kernel) rfl
theorem r_X10_stackAt_2 : IOK WB AD SR FW TB md_X10_stackAt 2 (.iload_n 0, 0, 0, 0, []) := io_plain (by decide +kernel) rfl
theorem r_X10_stackAt_3 : IOK WB AD SR FW TB md_X10_stackAt 3 (.bipush 20, 0, 0, 0, []) := io_plain (by decide +kernel) rfl
theorem r_X10_stackAt_5 : IOK WB AD SR FW TB md_X10_stackAt 5 (.imul, 0, 0, 0, []) := io_plain (by decide +kernel) rfl
theorem r_X10_stackAt_6 : IOK WB AD SR FW TB md_X10_stackAt 6 (.iadd, 0, 0, 0, []) := io_plain (by decide +kernel) rfl
theorem r_X10_stackAt_7 : IOK WB AD SR FW TB md_X10_stackAt 7 (.ireturn, 0, 0, 0, []) := io_plain (by decide +kernel) rfl
set_option maxRecDepth 100000 in
theorem ok_X10_stackAt_0 : ∀ q ∈ tl_X10_stackAt, IOK WB AD SR FW TB md_X10_stackAt q.1 q.2 := List.forall_mem_cons.mpr ⟨r_X10_stackAt_0, List.forall_mem_cons.mpr ⟨r_X10_stackAt_2, List.forall_mem_cons.mpr ⟨r_X10_stackAt_3, List.forall_mem_cons.mpr ⟨r_X10_stackAt_5, List.forall_mem_cons.mpr ⟨r_X10_stackAt_6, List.forall_mem_cons.mpr ⟨r_X10_stackAt_7, fun _ h => absurd h List.not_mem_nil⟩⟩⟩⟩⟩⟩
set_option maxRecDepth 100000 in
theorem tq_X10_stackAt_0 : tf_X10_stackAt = tl_X10_stackAt.map (fun q => (q.1, stepOf NPf md_X10_stackAt q.2)) := rfl
theorem ro_X10_stackAt : RowsOK (md_X10_stackAt, tl_X10_stackAt) tf_X10_stackAt := ⟨tq_X10_stackAt_0, ok_X10_stackAt_0⟩
theorem r_X17_declare_0 : IOK WB AD SR FW TB md_X17_declare 0 (.iload_n 1, 0, 0, 0, []) := io_plain (by decide +kernel) rfl
theorem r_X17_declare_1 : IOK WB AD SR FW TB md_X17_declare 1 (.iconst 0, 0, 0, 0, []) := io_plain (by decide +kernel) rfl
theorem r_X17_declare_2 : IOK WB AD SR FW TB md_X17_declare 2 (.aload_n 0, 0, 0, 0, []) := io_plain (by decide +kernel) rfl
theorem r_X17_declare_3 : IOK WB AD SR FW TB md_X17_declare 3 (.getfield 493, 18, 4, 0, []) := io_get (by decide +kernel) fo_RX17_493
theorem r_X17_declare_6 : IOK WB AD SR FW TB md_X17_declare 6 (.iconst 1, 0, 0, 0, []) := io_plain (by decide +kernel) rfl
theorem r_X17_declare_7 : IOK WB AD SR FW TB md_X17_declare 7 (.isub, 0, 0, 0, []) := io_plain (by decide +kernel) rfl
theorem r_X17_declare_8 : IOK WB AD SR FW TB md_X17_declare 8 (.invokestatic 370, 19, 18, 0, []) := io_stat (by decide +kernel) tb_X17_isIn (wb_9 104 rfl rfl) st_X17_isIn pr_X17_isIn
theorem r_X17_declare_11 : IOK WB AD SR FW TB md_X17_declare 11 (.ifCond .eq 15, 0, 0, 0, []) := io_plain (by decide +kernel) rfl
theorem r_X17_declare_26 : IOK WB AD SR FW TB md_X17_declare 26 (.iconst 0, 0, 0, 0, []) := io_plain (by decide +kernel) rfl
theorem r_X17_declare_27 : IOK WB AD SR FW TB md_X17_declare 27 (.istore 6, 0, 0, 0, []) := io_plain (by decide +kernel) rfl
theorem r_X17_declare_29 : IOK WB AD SR FW TB md_X17_declare 29 (.iload 6, 0, 0, 0, []) := io_plain (by decide +kernel) rfl
theorem r_X17_declare_31 : IOK WB AD SR FW TB md_X17_declare 31 (.ifCond .eq 12, 0, 0, 0, []) := io_plain (by decide +kernel) rfl
theorem r_X17_declare_43 : IOK WB AD SR FW TB md_X17_declare 43 (.iconst 0, 0, 0, 0, []) := io_plain (by decide +kernel) rfl
theorem r_X17_declare_44 : IOK WB AD SR FW TB md_X17_declare 44 (.istore 7, 0, 0, 0, []) := io_plain (by decide +kernel) rfl
theorem r_X17_declare_46 : IOK WB AD SR FW TB md_X17_declare 46 (.iload 6, 0, 0, 0, []) := io_plain (by decide +kernel) rfl
theorem r_X17_declare_48 : IOK WB AD SR FW TB md_X17_declare 48 (.ifCond .eq 51, 0, 0, 0, []) := io_plain (by decide +kernel) rfl
theorem r_X17_declare_99 : IOK WB AD SR FW TB md_X17_declare 99 (.iconst 0, 0, 0, 0, []) := io_plain (by decide +kernel) rfl
theorem r_X17_declare_100 : IOK WB AD SR FW TB md_X17_declare 100 (.istore 6, 0, 0, 0, []) := io_plain (by decide +kernel) rfl
theorem r_X17_declare_102 : IOK WB AD SR FW TB md_X17_declare 102 (.aload_n 0, 0, 0, 0, []) := io_plain (by decide +kernel) rfl
theorem r_X17_declare_103 : IOK WB AD SR FW TB md_X17_declare 103 (.iload 6, 0, 0, 0, []) := io_plain (by decide +kernel) rfl
theorem r_X17_declare_105 : IOK WB AD SR FW TB md_X17_declare 105 (.ifCond .ne 7, 0, 0, 0, []) := io_plain (by decide +kernel) rfl
theorem r_X17_declare_108 : IOK WB AD SR FW TB md_X17_declare 108 (.iconst 1, 0, 0, 0, []) := io_plain (by decide +kernel) rfl
theorem r_X17_declare_109 : IOK WB AD SR FW TB md_X17_declare 109 (.goto 25, 0, 0, 0, []) := io_plain (by decide +kernel) rfl
theorem r_X17_declare_134 : IOK WB AD SR FW TB md_X17_declare 134 (.putfield 114, 18, 0, 0, []) := io_put (by decide +kernel) fo_RX17_114 po_RX17_0_18_0_0
theorem r_X17_declare_137 : IOK WB AD SR FW TB md_X17_declare 137 (.aload_n 0, 0, 0, 0, []) := io_plain (by decide +kernel) rfl
theorem r_X17_declare_138 : IOK WB AD SR FW TB md_X17_declare 138 (.getfield 114, 18, 0, 0, []) := io_get (by decide +kernel) fo_RX17_114
theorem r_X17_declare_141 : IOK WB AD SR FW TB md_X17_declare 141 (.ifCond .le 5, 0, 0, 0, []) := io_plain (by decide +kernel) rfl
theorem r_X17_declare_144 : IOK WB AD SR FW TB md_X17_declare 144 (.iconst 0, 0, 0, 0, []) := io_plain (by decide +kernel) rfl
theorem r_X17_declare_145 : IOK WB AD SR FW TB md_X17_declare 145 (.ireturn, 0, 0, 0, []) := io_plain (by decide +kernel) rfl
set_option maxRecDepth 100000 in
theorem ok_X17_declare_0 : ∀ q ∈ tl_X17_declare, IOK WB AD SR FW TB md_X17_declare q.1 q.2 := List.forall_mem_cons.mpr ⟨r_X17_declare_0, List.forall_mem_cons.mpr ⟨r_X17_declare_1, List.forall_mem_cons.mpr ⟨r_X17_declare_2, List.forall_mem_cons.mpr ⟨r_X17_declare_3, List.forall_mem_cons.mpr ⟨r_X17_declare_6, List.forall_mem_cons.mpr ⟨r_X17_declare_7, List.forall_mem_cons.mpr ⟨r_X17_declare_8, List.forall_mem_cons.mpr ⟨r_X17_declare_11, List.forall_mem_cons.mpr ⟨r_X17_declare_26, List.forall_mem_cons.mpr ⟨r_X17_declare_27, List.forall_mem_cons.mpr ⟨r_X17_declare_29, List.forall_mem_cons.mpr ⟨r_X17_declare_31, List.forall_mem_cons.mpr ⟨r_X17_declare_43, List.forall_mem_cons.mpr ⟨r_X17_declare_44, List.forall_mem_cons.mpr ⟨r_X17_declare_46, List.forall_mem_cons.mpr ⟨r_X17_declare_48, List.forall_mem_cons.mpr ⟨r_X17_declare_99, List.forall_mem_cons.mpr ⟨r_X17_declare_100, List.forall_mem_cons.mpr ⟨r_X17_declare_102, List.forall_mem_cons.mpr ⟨r_X17_declare_103, List.forall_mem_cons.mpr ⟨r_X17_declare_105, List.forall_mem_cons.mpr ⟨r_X17_declare_108, List.forall_mem_cons.mpr ⟨r_X17_declare_109, List.forall_mem_cons.mpr ⟨r_X17_declare_134, List.forall_mem_cons.mpr ⟨r_X17_declare_137, List.forall_mem_cons.mpr ⟨r_X17_declare_138, List.forall_mem_cons.mpr ⟨r_X17_declare_141, List.forall_mem_cons.mpr ⟨r_X17_declare_144, List.forall_mem_cons.mpr ⟨r_X17_declare_145, fun _ h => absurd h List.not_mem_nil⟩⟩⟩⟩⟩⟩⟩⟩⟩⟩⟩⟩⟩⟩⟩⟩⟩⟩⟩⟩⟩⟩⟩⟩⟩⟩⟩⟩⟩
set_option maxRecDepth 100000 in
theorem tq_X17_declare_0 : tf_X17_declare = tl_X17_declare.map (fun q => (q.1, stepOf NPf md_X17_declare q.2)) := rfl
theorem ro_X17_declare : RowsOK (md_X17_declare, tl_X17_declare) tf_X17_declare := ⟨tq_X17_declare_0, ok_X17_declare_0⟩
theorem r_X10_complete_0 : IOK WB AD SR FW TB md_X10_complete 0 (.iconst 0, 0, 0, 0, []) := io_plain (by decide +kernel) rfl
theorem r_X10_complete_1 : IOK WB AD SR FW TB md_X10_complete 1 (.istore_n 1, 0, 0, 0, []) := io_plain (by decide +kernel) rfl
theorem r_X10_complete_2 : IOK WB AD SR FW TB md_X10_complete 2 (.iconst 1, 0, 0, 0, []) := io_plain (by decide +kernel) rfl
theorem r_X10_complete_3 : IOK WB AD SR FW TB md_X10_complete 3 (.istore_n 2, 0, 0, 0, []) := io_plain (by decide +kernel) rfl
theorem r_X10_complete_4 : IOK WB AD SR FW TB md_X10_complete 4 (.aload_n 0, 0, 0, 0, []) := io_plain (by decide +kernel) rfl
theorem r_X10_complete_5 : IOK WB AD SR FW TB md_X10_complete 5 (.getfield 74, 11, 7, 2, []) := io_get (by decide +kernel) fo_RX10_74
theorem r_X10_complete_8 : IOK WB AD SR FW TB md_X10_complete 8 (.iconst 0, 0, 0, 0, []) := io_plain (by decide +kernel) rfl
theorem r_X10_complete_9 : IOK WB AD SR FW TB md_X10_complete 9 (.putfield 382, 1, 12, 0, []) := io_put (by decide +kernel) fo_RX10_382 po_RX10_0_1_12_0
theorem r_X10_complete_12 : IOK WB AD SR FW TB md_X10_complete 12 (.iconst 0, 0, 0, 0, []) := io_plain (by decide +kernel) rfl
theorem r_X10_complete_13 : IOK WB AD SR FW TB md_X10_complete 13 (.istore_n 3, 0, 0, 0, []) := io_plain (by decide +kernel) rfl
theorem r_X10_complete_14 : IOK WB AD SR FW TB md_X10_complete 14 (.iload_n 3, 0, 0, 0, []) := io_plain (by decide +kernel) rfl
theorem r_X10_complete_15 : IOK WB AD SR FW TB md_X10_complete 15 (.bipush 12, 0, 0, 0, []) := io_plain (by decide +kernel) rfl
theorem r_X10_complete_17 : IOK WB AD SR FW TB md_X10_complete 17 (.if_icmp .gt 138, 0, 0, 0, []) := io_plain (by decide +kernel) rfl
theorem r_X10_complete_20 : IOK WB AD SR FW TB md_X10_complete 20 (.iload_n 2, 0, 0, 0, []) := io_plain (by decide +kernel) rfl
theorem r_X10_complete_21 : IOK WB AD SR FW TB md_X10_complete 21 (.ifCond .eq 134, 0, 0, 0, []) := io_plain (by decide +kernel) rfl
theorem r_X10_complete_24 : IOK WB AD SR FW TB md_X10_complete 24 (.aload_n 0, 0, 0, 0, []) := io_plain (by decide +kernel) rfl
theorem r_X10_complete_25 : IOK WB AD SR FW TB md_X10_complete 25 (.getfield 21, 11, 1, 2, []) := io_get (by decide +kernel) fo_RX10_21
theorem r_X10_complete_28 : IOK WB AD SR FW TB md_X10_complete 28 (.invokevirtual 173, 44, 9, 0, []) := io_virt (by decide +kernel) tb_X8_startAnew (wb_3 128 rfl rfl) in_X8_startAnew se_X8_startAnew ⟨_, rfl, rfl⟩ pr_X8_startAnew (by decide)
theorem r_X10_complete_31 : IOK WB AD SR FW TB md_X10_complete 31 (.aload_n 0, 0, 0, 0, []) := io_plain (by decide +kernel) rfl
theorem r_X10_complete_32 : IOK WB AD SR FW TB md_X10_complete 32 (.getfield 74, 11, 7, 2, []) := io_get (by decide +kernel) fo_RX10_74
theorem r_X10_complete_35 : IOK WB AD SR FW TB md_X10_complete 35 (.invokevirtual 358, 64, 1, 0, []) := io_virt (by decide +kernel) tb_X0_bringUpToDate (wb_3 137 rfl rfl) in_X0_bringUpToDate se_X0_bringUpToDate ⟨_, rfl, rfl⟩ pr_X0_bringUpToDate (by decide)
theorem r_X10_complete_38 : IOK WB AD SR FW TB md_X10_complete 38 (.iconst 1, 0, 0, 0, []) := io_plain (by decide +kernel) rfl
theorem r_X10_complete_39 : IOK WB AD SR FW TB md_X10_complete 39 (.istore 4, 0, 0, 0, []) := io_plain (by decide +kernel) rfl
theorem r_X10_complete_41 : IOK WB AD SR FW TB md_X10_complete 41 (.iconst 0, 0, 0, 0, []) := io_plain (by decide +kernel) rfl
theorem r_X10_complete_42 : IOK WB AD SR FW TB md_X10_complete 42 (.istore 5, 0, 0, 0, []) := io_plain (by decide +kernel) rfl
theorem r_X10_complete_44 : IOK WB AD SR FW TB md_X10_complete 44 (.iload 5, 0, 0, 0, []) := io_plain (by decide +kernel) rfl
theorem r_X10_complete_46 : IOK WB AD SR FW TB md_X10_complete 46 (.aload_n 0, 0, 0, 0, []) := io_plain (by decide +kernel) rfl
theorem r_X10_complete_47 : IOK WB AD SR FW TB md_X10_complete 47 (.getfield 74, 11, 7, 2, []) := io_get (by decide +kernel) fo_RX10_74
theorem r_X10_complete_50 : IOK WB AD SR FW TB md_X10_complete 50 (.getfield 361, 1, 4, 0, []) := io_get (by decide +kernel) fo_RX10_361
theorem r_X10_complete_53 : IOK WB AD SR FW TB md_X10_complete 53 (.if_icmp .ge 51, 0, 0, 0, []) := io_plain (by decide +kernel) rfl
theorem r_X10_complete_104 : IOK WB AD SR FW TB md_X10_complete 104 (.iload 4, 0, 0, 0, []) := io_plain (by decide +kernel) rfl
theorem r_X10_complete_106 : IOK WB AD SR FW TB md_X10_complete 106 (.ifCond .ne 29, 0, 0, 0, []) := io_plain (by decide +kernel) rfl
theorem r_X10_complete_135 : IOK WB AD SR FW TB md_X10_complete 135 (.iconst 0, 0, 0, 0, []) := io_plain (by decide +kernel) rfl
theorem r_X10_complete_136 : IOK WB AD SR FW TB md_X10_complete 136 (.istore_n 2, 0, 0, 0, []) := io_plain (by decide +kernel) rfl
theorem r_X10_complete_137 : IOK WB AD SR FW TB md_X10_complete 137 (.iload_n 1, 0, 0, 0, []) := io_plain (by decide +kernel) rfl
theorem r_X10_complete_138 : IOK WB AD SR FW TB md_X10_complete 138 (.iload_n 2, 0, 0, 0, []) := io_plain (by decide +kernel) rfl
theorem r_X10_complete_139 : IOK WB AD SR FW TB md_X10_complete 139 (.ifCond .eq 7, 0, 0, 0, []) := io_plain (by decide +kernel) rfl
theorem r_X10_complete_146 : IOK WB AD SR FW TB md_X10_complete 146 (.iconst 0, 0, 0, 0, []) := io_plain (by decide +kernel) rfl
theorem r_X10_complete_147 : IOK WB AD SR FW TB md_X10_complete 147 (.iadd, 0, 0, 0, []) := io_plain (by decide +kernel) rfl
theorem r_X10_complete_148 : IOK WB AD SR FW TB md_X10_complete 148 (.istore_n 1, 0, 0, 0, []) := io_plain (by decide +kernel) rfl
set_option maxRecDepth 100000 in
theorem ok_X10_complete_0 : ∀ q ∈ tl_X10_complete_0, IOK WB AD SR FW TB md_X10_complete q.1 q.2 := List.forall_mem_cons.mpr ⟨r_X10_complete_0, List.forall_mem_cons.mpr ⟨r_X10_complete_1, List.forall_mem_cons.mpr ⟨r_X10_complete_2, List.forall_mem_cons.mpr ⟨r_X10_complete_3, List.forall_mem_cons.mpr ⟨r_X10_complete_4, List.forall_mem_cons.mpr ⟨r_X10_complete_5, List.forall_mem_cons.mpr ⟨r_X10_complete_8, List.forall_mem_cons.mpr ⟨r_X10_complete_9, List.forall_mem_cons.mpr ⟨r_X10_complete_12, List.forall_mem_cons.mpr ⟨r_X10_complete_13, List.forall_mem_cons.mpr ⟨r_X10_complete_14, List.forall_mem_cons.mpr ⟨r_X10_complete_15, List.forall_mem_cons.mpr ⟨r_X10_complete_17, List.forall_mem_cons.mpr ⟨r_X10_complete_20, List.forall_mem_cons.mpr ⟨r_X10_complete_21, List.forall_mem_cons.mpr ⟨r_X10_complete_24, List.forall_mem_cons.mpr ⟨r_X10_complete_25, List.forall_mem_cons.mpr ⟨r_X10_complete_28, List.forall_mem_cons.mpr ⟨r_X10_complete_31, List.forall_mem_cons.mpr ⟨r_X10_complete_32, List.forall_mem_cons.mpr ⟨r_X10_complete_35, List.forall_mem_cons.mpr ⟨r_X10_complete_38, List.forall_mem_cons.mpr ⟨r_X10_complete_39, List.forall_mem_cons.mpr ⟨r_X10_complete_41, List.forall_mem_cons.mpr ⟨r_X10_complete_42, List.forall_mem_cons.mpr ⟨r_X10_complete_44, List.forall_mem_cons.mpr ⟨r_X10_complete_46, List.forall_mem_cons.mpr ⟨r_X10_complete_47, List.forall_mem_cons.mpr ⟨r_X10_complete_50, List.forall_mem_cons.mpr ⟨r_X10_complete_53, List.forall_mem_cons.mpr ⟨r_X10_complete_104, List.forall_mem_cons.mpr ⟨r_X10_complete_106, List.forall_mem_cons.mpr ⟨r_X10_complete_135, List.forall_mem_cons.mpr ⟨r_X10_complete_136, List.forall_mem_cons.mpr ⟨r_X10_complete_137, List.forall_mem_cons.mpr ⟨r_X10_complete_138, List.forall_mem_cons.mpr ⟨r_X10_complete_139, List.forall_mem_cons.mpr ⟨r_X10_complete_146, List.forall_mem_cons.mpr ⟨r_X10_complete_147, List.forall_mem_cons.mpr ⟨r_X10_complete_148, fun _ h => absurd h List.not_mem_nil⟩⟩⟩⟩⟩⟩⟩⟩⟩⟩⟩⟩⟩⟩⟩⟩⟩⟩⟩⟩⟩⟩⟩⟩⟩⟩⟩⟩⟩⟩⟩⟩⟩⟩⟩⟩⟩⟩⟩⟩
set_option maxRecDepth 100000 in
theorem tq_X10_complete_0 : tf_X10_complete_0 = tl_X10_complete_0.map (fun q => (q.1, stepOf NPf md_X10_complete q.2)) := rfl
theorem r_X10_complete_149 : IOK WB AD SR FW TB md_X10_complete 149 (.iinc 3 1, 0, 0, 0, []) := io_plain (by decide +kernel) rfl
theorem r_X10_complete_152 : IOK WB AD SR FW TB md_X10_complete 152 (.goto (-138), 0, 0, 0, []) := io_plain (by decide +kernel) rfl
theorem r_X10_complete_155 : IOK WB AD SR FW TB md_X10_complete 155 (.iload_n 1, 0, 0, 0, []) := io_plain (by decide +kernel) rfl
theorem r_X10_complete_156 : IOK WB AD SR FW TB md_X10_complete 156 (.ireturn, 0, 0, 0, []) := io_plain (by decide +kernel) rfl
set_option maxRecDepth 100000 in
theorem ok_X10_complete_1 : ∀ q ∈ tl_X10_complete_1, IOK WB AD SR FW TB md_X10_complete q.1 q.2 := List.forall_mem_cons.mpr ⟨r_X10_complete_149, List.forall_mem_cons.mpr ⟨r_X10_complete_152, List.forall_mem_cons.mpr ⟨r_X10_complete_155, List.forall_mem_cons.mpr ⟨r_X10_complete_156, fun _ h => absurd h List.not_mem_nil⟩⟩⟩⟩
set_option maxRecDepth 100000 in
theorem tq_X10_complete_1 : tf_X10_complete_1 = tl_X10_complete_1.map (fun q => (q.1, stepOf NPf md_X10_complete q.2)) := rfl
theorem ro_X10_complete : RowsOK (md_X10_complete, tl_X10_complete) tf_X10_complete := rows_app ⟨tq_X10_complete_0, ok_X10_complete_0⟩ (⟨tq_X10_complete_1, ok_X10_complete_1⟩)
theorem r_X17_both_0 : IOK WB AD SR FW TB md_X17_both 0 (.aload_n 0, 0, 0, 0, []) := io_plain (by decide +kernel) rfl
theorem r_X17_both_1 : IOK WB AD SR FW TB md_X17_both 1 (.getfield 60, 18, 17, 2, []) := io_get (by decide +kernel) fo_RX17_60
theorem r_X17_both_4 : IOK WB AD SR FW TB md_X17_both 4 (.invokeinterface 271 1, 30, 0, 0, []) := io_face (by decide +kernel) tb_Jx4a65c_size_8abf5 (List.mem_of_getElem? (i := 0) rfl) (wb_8 32 rfl rfl) in_Jx4a65c_size_8abf5 (wb_8 35 rfl rfl) rfl rfl rfl pr_Jx4a65c_size_8abf5 (by decide)
theorem r_X17_both_9 : IOK WB AD SR FW TB md_X17_both 9 (.istore_n 2, 0, 0, 0, []) := io_plain (by decide +kernel) rfl
theorem r_X17_both_10 : IOK WB AD SR FW TB md_X17_both 10 (.aload_n 0, 0, 0, 0, []) := io_plain (by decide +kernel) rfl
theorem r_X17_both_11 : IOK WB AD SR FW TB md_X17_both 11 (.iload_n 2, 0, 0, 0, []) := io_plain (by decide +kernel) rfl
theorem r_X17_both_12 : IOK WB AD SR FW TB md_X17_both 12 (.iconst 2, 0, 0, 0, []) := io_plain (by decide +kernel) rfl
theorem r_X17_both_13 : IOK WB AD SR FW TB md_X17_both 13 (.if_icmp .lt 47, 0, 0, 0, []) := io_plain (by decide +kernel) rfl
theorem r_X17_both_60 : IOK WB AD SR FW TB md_X17_both 60 (.iconst 1, 0, 0, 0, []) := io_plain (by decide +kernel) rfl
theorem r_X17_both_61 : IOK WB AD SR FW TB md_X17_both 61 (.goto 4, 0, 0, 0, []) := io_plain (by decide +kernel) rfl
theorem r_X17_both_65 : IOK WB AD SR FW TB md_X17_both 65 (.putfield 114, 18, 0, 0, []) := io_put (by decide +kernel) fo_RX17_114 po_RX17_0_18_0_0
theorem r_X17_both_68 : IOK WB AD SR FW TB md_X17_both 68 (.aload_n 0, 0, 0, 0, []) := io_plain (by decide +kernel) rfl
theorem r_X17_both_69 : IOK WB AD SR FW TB md_X17_both 69 (.getfield 114, 18, 0, 0, []) := io_get (by decide +kernel) fo_RX17_114
theorem r_X17_both_72 : IOK WB AD SR FW TB md_X17_both 72 (.ifCond .le 5, 0, 0, 0, []) := io_plain (by decide +kernel) rfl
theorem r_X17_both_75 : IOK WB AD SR FW TB md_X17_both 75 (.iconst 0, 0, 0, 0, []) := io_plain (by decide +kernel) rfl
theorem r_X17_both_76 : IOK WB AD SR FW TB md_X17_both 76 (.ireturn, 0, 0, 0, []) := io_plain (by decide +kernel) rfl
set_option maxRecDepth 100000 in
theorem ok_X17_both_0 : ∀ q ∈ tl_X17_both, IOK WB AD SR FW TB md_X17_both q.1 q.2 := List.forall_mem_cons.mpr ⟨r_X17_both_0, List.forall_mem_cons.mpr ⟨r_X17_both_1, List.forall_mem_cons.mpr ⟨r_X17_both_4, List.forall_mem_cons.mpr ⟨r_X17_both_9, List.forall_mem_cons.mpr ⟨r_X17_both_10, List.forall_mem_cons.mpr ⟨r_X17_both_11, List.forall_mem_cons.mpr ⟨r_X17_both_12, List.forall_mem_cons.mpr ⟨r_X17_both_13, List.forall_mem_cons.mpr ⟨r_X17_both_60, List.forall_mem_cons.mpr ⟨r_X17_both_61, List.forall_mem_cons.mpr ⟨r_X17_both_65, List.forall_mem_cons.mpr ⟨r_X17_both_68, List.forall_mem_cons.mpr ⟨r_X17_both_69, List.forall_mem_cons.mpr ⟨r_X17_both_72, List.forall_mem_cons.mpr ⟨r_X17_both_75, List.forall_mem_cons.mpr ⟨r_X17_both_76, fun _ h => absurd h List.not_mem_nil⟩⟩⟩⟩⟩⟩⟩⟩⟩⟩⟩⟩⟩⟩⟩⟩
set_option maxRecDepth 100000 in
theorem tq_X17_both_0 : tf_X17_both = tl_X17_both.map (fun q => (q.1, stepOf NPf md_X17_both q.2)) := rfl
theorem ro_X17_both : RowsOK (md_X17_both, tl_X17_both) tf_X17_both := ⟨tq_X17_both_0, ok_X17_both_0⟩
theorem r_X17_holds_0 : IOK WB AD SR FW TB md_X17_holds 0 (.aload_n 0, 0, 0, 0, []) := io_plain (by decide +kernel) rfl
theorem r_X17_holds_1 : IOK WB AD SR FW TB md_X17_holds 1 (.iload_n 1, 0, 0, 0, []) := io_plain (by decide +kernel) rfl
theorem r_X17_holds_2 : IOK WB AD SR FW TB md_X17_holds 2 (.iconst 0, 0, 0, 0, []) := io_plain (by decide +kernel) rfl
theorem r_X17_holds_3 : IOK WB AD SR FW TB md_X17_holds 3 (.iconst 2, 0, 0, 0, []) := io_plain (by decide +kernel) rfl
theorem r_X17_holds_4 : IOK WB AD SR FW TB md_X17_holds 4 (.invokestatic 370, 19, 18, 0, []) := io_stat (by decide +kernel) tb_X17_isIn (wb_9 104 rfl rfl) st_X17_isIn pr_X17_isIn
theorem r_X17_holds_7 : IOK WB AD SR FW TB md_X17_holds 7 (.ifCond .ne 7, 0, 0, 0, []) := io_plain (by decide +kernel) rfl
theorem r_X17_holds_10 : IOK WB AD SR FW TB md_X17_holds 10 (.iconst 1, 0, 0, 0, []) := io_plain (by decide +kernel) rfl
theorem r_X17_holds_11 : IOK WB AD SR FW TB md_X17_holds 11 (.goto 44, 0, 0, 0, []) := io_plain (by decide +kernel) rfl
theorem r_X17_holds_14 : IOK WB AD SR FW TB md_X17_holds 14 (.aload_n 0, 0, 0, 0, []) := io_plain (by decide +kernel) rfl
theorem r_X17_holds_15 : IOK WB AD SR FW TB md_X17_holds 15 (.getfield 44, 18, 13, 2, []) := io_get (by decide +kernel) fo_RX17_44
theorem r_X17_holds_18 : IOK WB AD SR FW TB md_X17_holds 18 (.invokeinterface 351 1, 43, 0, 0, []) := io_face (by decide +kernel) tb_Jx4a65c_isEmpty_aae02 (List.mem_of_getElem? (i := 2) rfl) (wb_8 9 rfl rfl) in_Jx4a65c_isEmpty_aae02 (wb_8 13 rfl rfl) rfl rfl rfl pr_Jx4a65c_isEmpty_aae02 (by decide)
theorem r_X17_holds_23 : IOK WB AD SR FW TB md_X17_holds 23 (.ifCond .ne 27, 0, 0, 0, []) := io_plain (by decide +kernel) rfl
theorem r_X17_holds_50 : IOK WB AD SR FW TB md_X17_holds 50 (.iconst 2, 0, 0, 0, []) := io_plain (by decide +kernel) rfl
theorem r_X17_holds_51 : IOK WB AD SR FW TB md_X17_holds 51 (.goto 4, 0, 0, 0, []) := io_plain (by decide +kernel) rfl
theorem r_X17_holds_55 : IOK WB AD SR FW TB md_X17_holds 55 (.putfield 114, 18, 0, 0, []) := io_put (by decide +kernel) fo_RX17_114 po_RX17_0_18_0_0
theorem r_X17_holds_58 : IOK WB AD SR FW TB md_X17_holds 58 (.aload_n 0, 0, 0, 0, []) := io_plain (by decide +kernel) rfl
theorem r_X17_holds_59 : IOK WB AD SR FW TB md_X17_holds 59 (.getfield 114, 18, 0, 0, []) := io_get (by decide +kernel) fo_RX17_114
theorem r_X17_holds_62 : IOK WB AD SR FW TB md_X17_holds 62 (.ifCond .le 5, 0, 0, 0, []) := io_plain (by decide +kernel) rfl
theorem r_X17_holds_65 : IOK WB AD SR FW TB md_X17_holds 65 (.iconst 0, 0, 0, 0, []) := io_plain (by decide +kernel) rfl
theorem r_X17_holds_66 : IOK WB AD SR FW TB md_X17_holds 66 (.ireturn, 0, 0, 0, []) := io_plain (by decide +kernel) rfl
set_option maxRecDepth 100000 in
theorem ok_X17_holds_0 : ∀ q ∈ tl_X17_holds, IOK WB AD SR FW TB md_X17_holds q.1 q.2 := List.forall_mem_cons.mpr ⟨r_X17_holds_0, List.forall_mem_cons.mpr ⟨r_X17_holds_1, List.forall_mem_cons.mpr ⟨r_X17_holds_2, List.forall_mem_cons.mpr ⟨r_X17_holds_3, List.forall_mem_cons.mpr ⟨r_X17_holds_4, List.forall_mem_cons.mpr ⟨r_X17_holds_7, List.forall_mem_cons.mpr ⟨r_X17_holds_10, List.forall_mem_cons.mpr ⟨r_X17_holds_11, List.forall_mem_cons.mpr ⟨r_X17_holds_14, List.forall_mem_cons.mpr ⟨r_X17_holds_15, List.forall_mem_cons.mpr ⟨r_X17_holds_18, List.forall_mem_cons.mpr ⟨r_X17_holds_23, List.forall_mem_cons.mpr ⟨r_X17_holds_50, List.forall_mem_cons.mpr ⟨r_X17_holds_51, List.forall_mem_cons.mpr ⟨r_X17_holds_55, List.forall_mem_cons.mpr ⟨r_X17_holds_58, List.forall_mem_cons.mpr ⟨r_X17_holds_59, List.forall_mem_cons.mpr ⟨r_X17_holds_62, List.forall_mem_cons.mpr ⟨r_X17_holds_65, List.forall_mem_cons.mpr ⟨r_X17_holds_66, fun _ h => absurd h List.not_mem_nil⟩⟩⟩⟩⟩⟩⟩⟩⟩⟩⟩⟩⟩⟩⟩⟩⟩⟩⟩⟩
set_option maxRecDepth 100000 in
theorem tq_X17_holds_0 : tf_X17_holds = tl_X17_holds.map (fun q => (q.1, stepOf NPf md_X17_holds q.2)) := rfl
theorem ro_X17_holds : RowsOK (md_X17_holds, tl_X17_holds) tf_X17_holds := ⟨tq_X17_holds_0, ok_X17_holds_0⟩
theorem r_X17_keep_0 : IOK WB AD SR FW TB md_X17_keep 0 (.aload_n 0, 0, 0, 0, []) := io_plain (by decide +kernel) rfl
theorem r_X17_keep_1 : IOK WB AD SR FW TB md_X17_keep 1 (.iload_n 1, 0, 0, 0, []) := io_plain (by decide +kernel) rfl
theorem r_X17_keep_2 : IOK WB AD SR FW TB md_X17_keep 2 (.iconst 0, 0, 0, 0, []) := io_plain (by decide +kernel) rfl
theorem r_X17_keep_3 : IOK WB AD SR FW TB md_X17_keep 3 (.bipush 19, 0, 0, 0, []) := io_plain (by decide +kernel) rfl
theorem r_X17_keep_5 : IOK WB AD SR FW TB md_X17_keep 5 (.invokestatic 370, 19, 18, 0, []) := io_stat (by decide +kernel) tb_X17_isIn (wb_9 104 rfl rfl) st_X17_isIn pr_X17_isIn
theorem r_X17_keep_8 : IOK WB AD SR FW TB md_X17_keep 8 (.ifCond .ne 7, 0, 0, 0, []) := io_plain (by decide +kernel) rfl
theorem r_X17_keep_11 : IOK WB AD SR FW TB md_X17_keep 11 (.iconst 1, 0, 0, 0, []) := io_plain (by decide +kernel) rfl
theorem r_X17_keep_12 : IOK WB AD SR FW TB md_X17_keep 12 (.goto 20, 0, 0, 0, []) := io_plain (by decide +kernel) rfl
theorem r_X17_keep_15 : IOK WB AD SR FW TB md_X17_keep 15 (.aload_n 0, 0, 0, 0, []) := io_plain (by decide +kernel) rfl
theorem r_X17_keep_16 : IOK WB AD SR FW TB md_X17_keep 16 (.getfield 44, 18, 13, 2, []) := io_get (by decide +kernel) fo_RX17_44
theorem r_X17_keep_19 : IOK WB AD SR FW TB md_X17_keep 19 (.invokeinterface 351 1, 43, 0, 0, []) := io_face (by decide +kernel) tb_Jx4a65c_isEmpty_aae02 (List.mem_of_getElem? (i := 2) rfl) (wb_8 9 rfl rfl) in_Jx4a65c_isEmpty_aae02 (wb_8 13 rfl rfl) rfl rfl rfl pr_Jx4a65c_isEmpty_aae02 (by decide)
theorem r_X17_keep_24 : IOK WB AD SR FW TB md_X17_keep 24 (.ifCond .eq 7, 0, 0, 0, []) := io_plain (by decide +kernel) rfl
theorem r_X17_keep_27 : IOK WB AD SR FW TB md_X17_keep 27 (.iconst 2, 0, 0, 0, []) := io_plain (by decide +kernel) rfl
theorem r_X17_keep_28 : IOK WB AD SR FW TB md_X17_keep 28 (.goto 4, 0, 0, 0, []) := io_plain (by decide +kernel) rfl
theorem r_X17_keep_32 : IOK WB AD SR FW TB md_X17_keep 32 (.putfield 114, 18, 0, 0, []) := io_put (by decide +kernel) fo_RX17_114 po_RX17_0_18_0_0
theorem r_X17_keep_35 : IOK WB AD SR FW TB md_X17_keep 35 (.aload_n 0, 0, 0, 0, []) := io_plain (by decide +kernel) rfl
theorem r_X17_keep_36 : IOK WB AD SR FW TB md_X17_keep 36 (.getfield 114, 18, 0, 0, []) := io_get (by decide +kernel) fo_RX17_114
theorem r_X17_keep_39 : IOK WB AD SR FW TB md_X17_keep 39 (.ifCond .le 5, 0, 0, 0, []) := io_plain (by decide +kernel) rfl
theorem r_X17_keep_42 : IOK WB AD SR FW TB md_X17_keep 42 (.iconst 0, 0, 0, 0, []) := io_plain (by decide +kernel) rfl
theorem r_X17_keep_43 : IOK WB AD SR FW TB md_X17_keep 43 (.ireturn, 0, 0, 0, []) := io_plain (by decide +kernel) rfl
set_option maxRecDepth 100000 in
theorem ok_X17_keep_0 : ∀ q ∈ tl_X17_keep, IOK WB AD SR FW TB md_X17_keep q.1 q.2 := List.forall_mem_cons.mpr ⟨r_X17_keep_0, List.forall_mem_cons.mpr ⟨r_X17_keep_1, List.forall_mem_cons.mpr ⟨r_X17_keep_2, List.forall_mem_cons.mpr ⟨r_X17_keep_3, List.forall_mem_cons.mpr ⟨r_X17_keep_5, List.forall_mem_cons.mpr ⟨r_X17_keep_8, List.forall_mem_cons.mpr ⟨r_X17_keep_11, List.forall_mem_cons.mpr ⟨r_X17_keep_12, List.forall_mem_cons.mpr ⟨r_X17_keep_15, List.forall_mem_cons.mpr ⟨r_X17_keep_16, List.forall_mem_cons.mpr ⟨r_X17_keep_19, List.forall_mem_cons.mpr ⟨r_X17_keep_24, List.forall_mem_cons.mpr ⟨r_X17_keep_27, List.forall_mem_cons.mpr ⟨r_X17_keep_28, List.forall_mem_cons.mpr ⟨r_X17_keep_32, List.forall_mem_cons.mpr ⟨r_X17_keep_35, List.forall_mem_cons.mpr ⟨r_X17_keep_36, List.forall_mem_cons.mpr ⟨r_X17_keep_39, List.forall_mem_cons.mpr ⟨r_X17_keep_42, List.forall_mem_cons.mpr ⟨r_X17_keep_43, fun _ h => absurd h List.not_mem_nil⟩⟩⟩⟩⟩⟩⟩⟩⟩⟩⟩⟩⟩⟩⟩⟩⟩⟩⟩⟩
set_option maxRecDepth 100000 in
theorem tq_X17_keep_0 : tf_X17_keep = tl_X17_keep.map (fun q => (q.1, stepOf NPf md_X17_keep q.2)) := rfl
theorem ro_X17_keep : RowsOK (md_X17_keep, tl_X17_keep) tf_X17_keep := ⟨tq_X17_keep_0, ok_X17_keep_0⟩
theorem r_X17_weight_0 : IOK WB AD SR FW TB md_X17_weight 0 (.iload_n 1, 0, 0, 0, []) := io_plain (by decide +kernel) rfl
theorem r_X17_weight_1 : IOK WB AD SR FW TB md_X17_weight 1 (.iconst 0, 0, 0, 0, []) := io_plain (by decide +kernel) rfl
theorem r_X17_weight_2 : IOK WB AD SR FW TB md_X17_weight 2 (.aload_n 0, 0, 0, 0, []) := io_plain (by decide +kernel) rfl
theorem r_X17_weight_3 : IOK WB AD SR FW TB md_X17_weight 3 (.getfield 493, 18, 4, 0, []) := io_get (by decide +kernel) fo_RX17_493
theorem r_X17_weight_6 : IOK WB AD SR FW TB md_X17_weight 6 (.iconst 1, 0, 0, 0, []) := io_plain (by decide +kernel) rfl
theorem r_X17_weight_7 : IOK WB AD SR FW TB md_X17_weight 7 (.isub, 0, 0, 0, []) := io_plain (by decide +kernel) rfl
theorem r_X17_weight_8 : IOK WB AD SR FW TB md_X17_weight 8 (.invokestatic 370, 19, 18, 0, []) := io_stat (by decide +kernel) tb_X17_isIn (wb_9 104 rfl rfl) st_X17_isIn pr_X17_isIn
theorem r_X17_weight_11 : IOK WB AD SR FW TB md_X17_weight 11 (.ifCond .eq 35, 0, 0, 0, []) := io_plain (by decide +kernel) rfl
theorem r_X17_weight_46 : IOK WB AD SR FW TB md_X17_weight 46 (.iconst 0, 0, 0, 0, []) := io_plain (by decide +kernel) rfl
theorem r_X17_weight_47 : IOK WB AD SR FW TB md_X17_weight 47 (.istore 4, 0, 0, 0, []) := io_plain (by decide +kernel) rfl
theorem r_X17_weight_49 : IOK WB AD SR FW TB md_X17_weight 49 (.aload_n 0, 0, 0, 0, []) := io_plain (by decide +kernel) rfl
theorem r_X17_weight_50 : IOK WB AD SR FW TB md_X17_weight 50 (.iload 4, 0, 0, 0, []) := io_plain (by decide +kernel) rfl
theorem r_X17_weight_52 : IOK WB AD SR FW TB md_X17_weight 52 (.ifCond .ne 7, 0, 0, 0, []) := io_plain (by decide +kernel) rfl
theorem r_X17_weight_55 : IOK WB AD SR FW TB md_X17_weight 55 (.iconst 1, 0, 0, 0, []) := io_plain (by decide +kernel) rfl
theorem r_X17_weight_56 : IOK WB AD SR FW TB md_X17_weight 56 (.goto 34, 0, 0, 0, []) := io_plain (by decide +kernel) rfl
theorem r_X17_weight_90 : IOK WB AD SR FW TB md_X17_weight 90 (.putfield 114, 18, 0, 0, []) := io_put (by decide +kernel) fo_RX17_114 po_RX17_0_18_0_0
theorem r_X17_weight_93 : IOK WB AD SR FW TB md_X17_weight 93 (.aload_n 0, 0, 0, 0, []) := io_plain (by decide +kernel) rfl
theorem r_X17_weight_94 : IOK WB AD SR FW TB md_X17_weight 94 (.getfield 114, 18, 0, 0, []) := io_get (by decide +kernel) fo_RX17_114
theorem r_X17_weight_97 : IOK WB AD SR FW TB md_X17_weight 97 (.ifCond .le 5, 0, 0, 0, []) := io_plain (by decide +kernel) rfl
theorem r_X17_weight_100 : IOK WB AD SR FW TB md_X17_weight 100 (.iconst 0, 0, 0, 0, []) := io_plain (by decide +kernel) rfl
theorem r_X17_weight_101 : IOK WB AD SR FW TB md_X17_weight 101 (.ireturn, 0, 0, 0, []) := io_plain (by decide +kernel) rfl
set_option maxRecDepth 100000 in
theorem ok_X17_weight_0 : ∀ q ∈ tl_X17_weight, IOK WB AD SR FW TB md_X17_weight q.1 q.2 := List.forall_mem_cons.mpr ⟨r_X17_weight_0, List.forall_mem_cons.mpr ⟨r_X17_weight_1, List.forall_mem_cons.mpr ⟨r_X17_weight_2, List.forall_mem_cons.mpr ⟨r_X17_weight_3, List.forall_mem_cons.mpr ⟨r_X17_weight_6, List.forall_mem_cons.mpr ⟨r_X17_weight_7, List.forall_mem_cons.mpr ⟨r_X17_weight_8, List.forall_mem_cons.mpr ⟨r_X17_weight_11, List.forall_mem_cons.mpr ⟨r_X17_weight_46, List.forall_mem_cons.mpr ⟨r_X17_weight_47, List.forall_mem_cons.mpr ⟨r_X17_weight_49, List.forall_mem_cons.mpr ⟨r_X17_weight_50, List.forall_mem_cons.mpr ⟨r_X17_weight_52, List.forall_mem_cons.mpr ⟨r_X17_weight_55, List.forall_mem_cons.mpr ⟨r_X17_weight_56, List.forall_mem_cons.mpr ⟨r_X17_weight_90, List.forall_mem_cons.mpr ⟨r_X17_weight_93, List.forall_mem_cons.mpr ⟨r_X17_weight_94, List.forall_mem_cons.mpr ⟨r_X17_weight_97, List.forall_mem_cons.mpr ⟨r_X17_weight_100, List.forall_mem_cons.mpr ⟨r_X17_weight_101, fun _ h => absurd h List.not_mem_nil⟩⟩⟩⟩⟩⟩⟩⟩⟩⟩⟩⟩⟩⟩⟩⟩⟩⟩⟩⟩⟩
set_option maxRecDepth 100000 in
theorem tq_X17_weight_0 : tf_X17_weight = tl_X17_weight.map (fun q => (q.1, stepOf NPf md_X17_weight q.2)) := rfl
theorem ro_X17_weight : RowsOK (md_X17_weight, tl_X17_weight) tf_X17_weight := ⟨tq_X17_weight_0, ok_X17_weight_0⟩
theorem r_X17_complete_0 : IOK WB AD SR FW TB md_X17_complete 0 (.aload_n 0, 0, 0, 0, []) := io_plain (by decide +kernel) rfl
theorem r_X17_complete_1 : IOK WB AD SR FW TB md_X17_complete 1 (.iconst 0, 0, 0, 0, []) := io_plain (by decide +kernel) rfl
theorem r_X17_complete_2 : IOK WB AD SR FW TB md_X17_complete 2 (.putfield 114, 18, 0, 0, []) := io_put (by decide +kernel) fo_RX17_114 po_RX17_0_18_0_0
theorem r_X17_complete_5 : IOK WB AD SR FW TB md_X17_complete 5 (.aload_n 0, 0, 0, 0, []) := io_plain (by decide +kernel) rfl
theorem r_X17_complete_6 : IOK WB AD SR FW TB md_X17_complete 6 (.getfield 54, 18, 15, 2, []) := io_get (by decide +kernel) fo_RX17_54
theorem r_X17_complete_9 : IOK WB AD SR FW TB md_X17_complete 9 (.invokeinterface 271 1, 30, 0, 0, []) := io_face (by decide +kernel) tb_Jx4a65c_size_8abf5 (List.mem_of_getElem? (i := 0) rfl) (wb_8 32 rfl rfl) in_Jx4a65c_size_8abf5 (wb_8 35 rfl rfl) rfl rfl rfl pr_Jx4a65c_size_8abf5 (by decide)
theorem r_X17_complete_14 : IOK WB AD SR FW TB md_X17_complete 14 (.istore_n 1, 0, 0, 0, []) := io_plain (by decide +kernel) rfl
theorem r_X17_complete_15 : IOK WB AD SR FW TB md_X17_complete 15 (.aload_n 0, 0, 0, 0, []) := io_plain (by decide +kernel) rfl
theorem r_X17_complete_16 : IOK WB AD SR FW TB md_X17_complete 16 (.iconst 0, 0, 0, 0, []) := io_plain (by decide +kernel) rfl
theorem r_X17_complete_17 : IOK WB AD SR FW TB md_X17_complete 17 (.putfield 321, 18, 27, 0, []) := io_put (by decide +kernel) fo_RX17_321 po_RX17_0_18_27_0
theorem r_X17_complete_20 : IOK WB AD SR FW TB md_X17_complete 20 (.iconst 1, 0, 0, 0, []) := io_plain (by decide +kernel) rfl
theorem r_X17_complete_21 : IOK WB AD SR FW TB md_X17_complete 21 (.istore_n 2, 0, 0, 0, []) := io_plain (by decide +kernel) rfl
theorem r_X17_complete_22 : IOK WB AD SR FW TB md_X17_complete 22 (.iload_n 2, 0, 0, 0, []) := io_plain (by decide +kernel) rfl
theorem r_X17_complete_23 : IOK WB AD SR FW TB md_X17_complete 23 (.ifCond .eq 111, 0, 0, 0, []) := io_plain (by decide +kernel) rfl
theorem r_X17_complete_26 : IOK WB AD SR FW TB md_X17_complete 26 (.aload_n 0, 0, 0, 0, []) := io_plain (by decide +kernel) rfl
theorem r_X17_complete_27 : IOK WB AD SR FW TB md_X17_complete 27 (.getfield 54, 18, 15, 2, []) := io_get (by decide +kernel) fo_RX17_54
theorem r_X17_complete_30 : IOK WB AD SR FW TB md_X17_complete 30 (.invokeinterface 271 1, 30, 0, 0, []) := io_face (by decide +kernel) tb_Jx4a65c_size_8abf5 (List.mem_of_getElem? (i := 0) rfl) (wb_8 32 rfl rfl) in_Jx4a65c_size_8abf5 (wb_8 35 rfl rfl) rfl rfl rfl pr_Jx4a65c_size_8abf5 (by decide)
theorem r_X17_complete_35 : IOK WB AD SR FW TB md_X17_complete 35 (.bipush 12, 0, 0, 0, []) := io_plain (by decide +kernel) rfl
theorem r_X17_complete_37 : IOK WB AD SR FW TB md_X17_complete 37 (.if_icmp .ge 97, 0, 0, 0, []) := io_plain (by decide +kernel) rfl
theorem r_X17_complete_40 : IOK WB AD SR FW TB md_X17_complete 40 (.aload_n 0, 0, 0, 0, []) := io_plain (by decide +kernel) rfl
theorem r_X17_complete_41 : IOK WB AD SR FW TB md_X17_complete 41 (.invokevirtual 508, 121, 18, 0, []) := io_virt (by decide +kernel) tb_X17_open (wb_10 51 rfl rfl) in_X17_open se_X17_open ⟨_, rfl, rfl⟩ pr_X17_open (by decide)
theorem r_X17_complete_44 : IOK WB AD SR FW TB md_X17_complete 44 (.astore_n 3, 0, 0, 0, []) := io_plain (by decide +kernel) rfl
theorem r_X17_complete_45 : IOK WB AD SR FW TB md_X17_complete 45 (.aload_n 3, 0, 0, 0, []) := io_plain (by decide +kernel) rfl
theorem r_X17_complete_46 : IOK WB AD SR FW TB md_X17_complete 46 (.ifnull 22, 0, 0, 0, []) := io_plain (by decide +kernel) rfl
theorem r_X17_complete_68 : IOK WB AD SR FW TB md_X17_complete 68 (.iconst 0, 0, 0, 0, []) := io_plain (by decide +kernel) rfl
theorem r_X17_complete_69 : IOK WB AD SR FW TB md_X17_complete 69 (.istore 4, 0, 0, 0, []) := io_plain (by decide +kernel) rfl
theorem r_X17_complete_71 : IOK WB AD SR FW TB md_X17_complete 71 (.iload 4, 0, 0, 0, []) := io_plain (by decide +kernel) rfl
theorem r_X17_complete_73 : IOK WB AD SR FW TB md_X17_complete 73 (.ifCond .eq 18, 0, 0, 0, []) := io_plain (by decide +kernel) rfl
theorem r_X17_complete_91 : IOK WB AD SR FW TB md_X17_complete 91 (.aload_n 3, 0, 0, 0, []) := io_plain (by decide +kernel) rfl
theorem r_X17_complete_92 : IOK WB AD SR FW TB md_X17_complete 92 (.ifnull 37, 0, 0, 0, []) := io_plain (by decide +kernel) rfl
theorem r_X17_complete_129 : IOK WB AD SR FW TB md_X17_complete 129 (.iconst 0, 0, 0, 0, []) := io_plain (by decide +kernel) rfl
theorem r_X17_complete_130 : IOK WB AD SR FW TB md_X17_complete 130 (.istore_n 2, 0, 0, 0, []) := io_plain (by decide +kernel) rfl
theorem r_X17_complete_131 : IOK WB AD SR FW TB md_X17_complete 131 (.goto (-109), 0, 0, 0, []) := io_plain (by decide +kernel) rfl
theorem r_X17_complete_134 : IOK WB AD SR FW TB md_X17_complete 134 (.goto 6, 0, 0, 0, []) := io_plain (by decide +kernel) rfl
theorem r_X17_complete_140 : IOK WB AD SR FW TB md_X17_complete 140 (.aload_n 0, 0, 0, 0, []) := io_plain (by decide +kernel) rfl
theorem r_X17_complete_141 : IOK WB AD SR FW TB md_X17_complete 141 (.getfield 54, 18, 15, 2, []) := io_get (by decide +kernel) fo_RX17_54
theorem r_X17_complete_144 : IOK WB AD SR FW TB md_X17_complete 144 (.invokeinterface 271 1, 30, 0, 0, []) := io_face (by decide +kernel) tb_Jx4a65c_size_8abf5 (List.mem_of_getElem? (i := 0) rfl) (wb_8 32 rfl rfl) in_Jx4a65c_size_8abf5 (wb_8 35 rfl rfl) rfl rfl rfl pr_Jx4a65c_size_8abf5 (by decide)
theorem r_X17_complete_149 : IOK WB AD SR FW TB md_X17_complete 149 (.iload_n 1, 0, 0, 0, []) := io_plain (by decide +kernel) rfl
theorem r_X17_complete_150 : IOK WB AD SR FW TB md_X17_complete 150 (.isub, 0, 0, 0, []) := io_plain (by decide +kernel) rfl
theorem r_X17_complete_151 : IOK WB AD SR FW TB md_X17_complete 151 (.ireturn, 0, 0, 0, []) := io_plain (by decide +kernel) rfl
set_option maxRecDepth 100000 in
theorem ok_X17_complete_0 : ∀ q ∈ tl_X17_complete, IOK WB AD SR FW TB md_X17_complete q.1 q.2 := List.forall_mem_cons.mpr ⟨r_X17_complete_0, List.forall_mem_cons.mpr ⟨r_X17_complete_1, List.forall_mem_cons.mpr ⟨r_X17_complete_2, List.forall_mem_cons.mpr ⟨r_X17_complete_5, List.forall_mem_cons.mpr ⟨r_X17_complete_6, List.forall_mem_cons.mpr ⟨r_X17_complete_9, List.forall_mem_cons.mpr ⟨r_X17_complete_14, List.forall_mem_cons.mpr ⟨r_X17_complete_15, List.forall_mem_cons.mpr ⟨r_X17_complete_16, List.forall_mem_cons.mpr ⟨r_X17_complete_17, List.forall_mem_cons.mpr ⟨r_X17_complete_20, List.forall_mem_cons.mpr ⟨r_X17_complete_21, List.forall_mem_cons.mpr ⟨r_X17_complete_22, List.forall_mem_cons.mpr ⟨r_X17_complete_23, List.forall_mem_cons.mpr ⟨r_X17_complete_26, List.forall_mem_cons.mpr ⟨r_X17_complete_27, List.forall_mem_cons.mpr ⟨r_X17_complete_30, List.forall_mem_cons.mpr ⟨r_X17_complete_35, List.forall_mem_cons.mpr ⟨r_X17_complete_37, List.forall_mem_cons.mpr ⟨r_X17_complete_40, List.forall_mem_cons.mpr ⟨r_X17_complete_41, List.forall_mem_cons.mpr ⟨r_X17_complete_44, List.forall_mem_cons.mpr ⟨r_X17_complete_45, List.forall_mem_cons.mpr ⟨r_X17_complete_46, List.forall_mem_cons.mpr ⟨r_X17_complete_68, List.forall_mem_cons.mpr ⟨r_X17_complete_69, List.forall_mem_cons.mpr ⟨r_X17_complete_71, List.forall_mem_cons.mpr ⟨r_X17_complete_73, List.forall_mem_cons.mpr ⟨r_X17_complete_91, List.forall_mem_cons.mpr ⟨r_X17_complete_92, List.forall_mem_cons.mpr ⟨r_X17_complete_129, List.forall_mem_cons.mpr ⟨r_X17_complete_130, List.forall_mem_cons.mpr ⟨r_X17_complete_131, List.forall_mem_cons.mpr ⟨r_X17_complete_134, List.forall_mem_cons.mpr ⟨r_X17_complete_140, List.forall_mem_cons.mpr ⟨r_X17_complete_141, List.forall_mem_cons.mpr ⟨r_X17_complete_144, List.forall_mem_cons.mpr ⟨r_X17_complete_149, List.forall_mem_cons.mpr ⟨r_X17_complete_150, List.forall_mem_cons.mpr ⟨r_X17_complete_151, fun _ h => absurd h List.not_mem_nil⟩⟩⟩⟩⟩⟩⟩⟩⟩⟩⟩⟩⟩⟩⟩⟩⟩⟩⟩⟩⟩⟩⟩⟩⟩⟩⟩⟩⟩⟩⟩⟩⟩⟩⟩⟩⟩⟩⟩⟩
set_option maxRecDepth 100000 in
theorem tq_X17_complete_0 : tf_X17_complete = tl_X17_complete.map (fun q => (q.1, stepOf NPf md_X17_complete q.2)) := rfl
theorem ro_X17_complete : RowsOK (md_X17_complete, tl_X17_complete) tf_X17_complete := ⟨tq_X17_complete_0, ok_X17_complete_0⟩
theorem r_X17_view_0 : IOK WB AD SR FW TB md_X17_view 0 (.iload_n 1, 0, 0, 0, []) := io_plain (by decide +kernel) rfl
theorem r_X17_view_1 : IOK WB AD SR FW TB md_X17_view 1 (.iconst 0, 0, 0, 0, []) := io_plain (by decide +kernel) rfl
theorem r_X17_view_2 : IOK WB AD SR FW TB md_X17_view 2 (.aload_n 0, 0, 0, 0, []) := io_plain (by decide +kernel) rfl
theorem r_X17_view_3 : IOK WB AD SR FW TB md_X17_view 3 (.getfield 493, 18, 4, 0, []) := io_get (by decide +kernel) fo_RX17_493
theorem r_X17_view_6 : IOK WB AD SR FW TB md_X17_view 6 (.iconst 1, 0, 0, 0, []) := io_plain (by decide +kernel) rfl
theorem r_X17_view_7 : IOK WB AD SR FW TB md_X17_view 7 (.isub, 0, 0, 0, []) := io_plain (by decide +kernel) rfl
theorem r_X17_view_8 : IOK WB AD SR FW TB md_X17_view 8 (.invokestatic 370, 19, 18, 0, []) := io_stat (by decide +kernel) tb_X17_isIn (wb_9 104 rfl rfl) st_X17_isIn pr_X17_isIn
theorem r_X17_view_11 : IOK WB AD SR FW TB md_X17_view 11 (.ifCond .eq 21, 0, 0, 0, []) := io_plain (by decide +kernel) rfl
theorem r_X17_view_32 : IOK WB AD SR FW TB md_X17_view 32 (.iconst 0, 0, 0, 0, []) := io_plain (by decide +kernel) rfl
theorem r_X17_view_33 : IOK WB AD SR FW TB md_X17_view 33 (.istore_n 3, 0, 0, 0, []) := io_plain (by decide +kernel) rfl
theorem r_X17_view_34 : IOK WB AD SR FW TB md_X17_view 34 (.aload_n 0, 0, 0, 0, []) := io_plain (by decide +kernel) rfl
theorem r_X17_view_35 : IOK WB AD SR FW TB md_X17_view 35 (.iload_n 3, 0, 0, 0, []) := io_plain (by decide +kernel) rfl
theorem r_X17_view_36 : IOK WB AD SR FW TB md_X17_view 36 (.ifCond .ne 7, 0, 0, 0, []) := io_plain (by decide +kernel) rfl
theorem r_X17_view_39 : IOK WB AD SR FW TB md_X17_view 39 (.iconst 1, 0, 0, 0, []) := io_plain (by decide +kernel) rfl
theorem r_X17_view_40 : IOK WB AD SR FW TB md_X17_view 40 (.goto 38, 0, 0, 0, []) := io_plain (by decide +kernel) rfl
theorem r_X17_view_78 : IOK WB AD SR FW TB md_X17_view 78 (.putfield 114, 18, 0, 0, []) := io_put (by decide +kernel) fo_RX17_114 po_RX17_0_18_0_0
theorem r_X17_view_81 : IOK WB AD SR FW TB md_X17_view 81 (.aload_n 0, 0, 0, 0, []) := io_plain (by decide +kernel) rfl
theorem r_X17_view_82 : IOK WB AD SR FW TB md_X17_view 82 (.getfield 114, 18, 0, 0, []) := io_get (by decide +kernel) fo_RX17_114
theorem r_X17_view_85 : IOK WB AD SR FW TB md_X17_view 85 (.ifCond .le 5, 0, 0, 0, []) := io_plain (by decide +kernel) rfl
theorem r_X17_view_88 : IOK WB AD SR FW TB md_X17_view 88 (.iconst 0, 0, 0, 0, []) := io_plain (by decide +kernel) rfl
theorem r_X17_view_89 : IOK WB AD SR FW TB md_X17_view 89 (.ireturn, 0, 0, 0, []) := io_plain (by decide +kernel) rfl
set_option maxRecDepth 100000 in
theorem ok_X17_view_0 : ∀ q ∈ tl_X17_view, IOK WB AD SR FW TB md_X17_view q.1 q.2 := List.forall_mem_cons.mpr ⟨r_X17_view_0, List.forall_mem_cons.mpr ⟨r_X17_view_1, List.forall_mem_cons.mpr ⟨r_X17_view_2, List.forall_mem_cons.mpr ⟨r_X17_view_3, List.forall_mem_cons.mpr ⟨r_X17_view_6, List.forall_mem_cons.mpr ⟨r_X17_view_7, List.forall_mem_cons.mpr ⟨r_X17_view_8, List.forall_mem_cons.mpr ⟨r_X17_view_11, List.forall_mem_cons.mpr ⟨r_X17_view_32, List.forall_mem_cons.mpr ⟨r_X17_view_33, List.forall_mem_cons.mpr ⟨r_X17_view_34, List.forall_mem_cons.mpr ⟨r_X17_view_35, List.forall_mem_cons.mpr ⟨r_X17_view_36, List.forall_mem_cons.mpr ⟨r_X17_view_39, List.forall_mem_cons.mpr ⟨r_X17_view_40, List.forall_mem_cons.mpr ⟨r_X17_view_78, List.forall_mem_cons.mpr ⟨r_X17_view_81, List.forall_mem_cons.mpr ⟨r_X17_view_82, List.forall_mem_cons.mpr ⟨r_X17_view_85, List.forall_mem_cons.mpr ⟨r_X17_view_88, List.forall_mem_cons.mpr ⟨r_X17_view_89, fun _ h => absurd h List.not_mem_nil⟩⟩⟩⟩⟩⟩⟩⟩⟩⟩⟩⟩⟩⟩⟩⟩⟩⟩⟩⟩⟩
set_option maxRecDepth 100000 in
theorem tq_X17_view_0 : tf_X17_view = tl_X17_view.map (fun q => (q.1, stepOf NPf md_X17_view q.2)) := rfl
theorem ro_X17_view : RowsOK (md_X17_view, tl_X17_view) tf_X17_view := ⟨tq_X17_view_0, ok_X17_view_0⟩
theorem r_X17_use_0 : IOK WB AD SR FW TB md_X17_use 0 (.aload_n 0, 0, 0, 0, []) := io_plain (by decide +kernel) rfl
theorem r_X17_use_1 : IOK WB AD SR FW TB md_X17_use 1 (.iload_n 1, 0, 0, 0, []) := io_plain (by decide +kernel) rfl
theorem r_X17_use_2 : IOK WB AD SR FW TB md_X17_use 2 (.iconst 0, 0, 0, 0, []) := io_plain (by decide +kernel) rfl
theorem r_X17_use_3 : IOK WB AD SR FW TB md_X17_use 3 (.aload_n 0, 0, 0, 0, []) := io_plain (by decide +kernel) rfl
theorem r_X17_use_4 : IOK WB AD SR FW TB md_X17_use 4 (.getfield 57, 18, 16, 2, []) := io_get (by decide +kernel) fo_RX17_57
theorem r_X17_use_7 : IOK WB AD SR FW TB md_X17_use 7 (.invokeinterface 271 1, 30, 0, 0, []) := io_face (by decide +kernel) tb_Jx4a65c_size_8abf5 (List.mem_of_getElem? (i := 0) rfl) (wb_8 32 rfl rfl) in_Jx4a65c_size_8abf5 (wb_8 35 rfl rfl) rfl rfl rfl pr_Jx4a65c_size_8abf5 (by decide)
theorem r_X17_use_12 : IOK WB AD SR FW TB md_X17_use 12 (.iconst 1, 0, 0, 0, []) := io_plain (by decide +kernel) rfl
theorem r_X17_use_13 : IOK WB AD SR FW TB md_X17_use 13 (.isub, 0, 0, 0, []) := io_plain (by decide +kernel) rfl
theorem r_X17_use_14 : IOK WB AD SR FW TB md_X17_use 14 (.invokestatic 370, 19, 18, 0, []) := io_stat (by decide +kernel) tb_X17_isIn (wb_9 104 rfl rfl) st_X17_isIn pr_X17_isIn
theorem r_X17_use_17 : IOK WB AD SR FW TB md_X17_use 17 (.ifCond .ne 7, 0, 0, 0, []) := io_plain (by decide +kernel) rfl
theorem r_X17_use_20 : IOK WB AD SR FW TB md_X17_use 20 (.iconst 1, 0, 0, 0, []) := io_plain (by decide +kernel) rfl
theorem r_X17_use_21 : IOK WB AD SR FW TB md_X17_use 21 (.goto 22, 0, 0, 0, []) := io_plain (by decide +kernel) rfl
theorem r_X17_use_43 : IOK WB AD SR FW TB md_X17_use 43 (.putfield 114, 18, 0, 0, []) := io_put (by decide +kernel) fo_RX17_114 po_RX17_0_18_0_0
theorem r_X17_use_46 : IOK WB AD SR FW TB md_X17_use 46 (.aload_n 0, 0, 0, 0, []) := io_plain (by decide +kernel) rfl
theorem r_X17_use_47 : IOK WB AD SR FW TB md_X17_use 47 (.getfield 114, 18, 0, 0, []) := io_get (by decide +kernel) fo_RX17_114
theorem r_X17_use_50 : IOK WB AD SR FW TB md_X17_use 50 (.ifCond .le 7, 0, 0, 0, []) := io_plain (by decide +kernel) rfl
theorem r_X17_use_53 : IOK WB AD SR FW TB md_X17_use 53 (.iconst 0, 0, 0, 0, []) := io_plain (by decide +kernel) rfl
theorem r_X17_use_54 : IOK WB AD SR FW TB md_X17_use 54 (.goto 19, 0, 0, 0, []) := io_plain (by decide +kernel) rfl
theorem r_X17_use_73 : IOK WB AD SR FW TB md_X17_use 73 (.ireturn, 0, 0, 0, []) := io_plain (by decide +kernel) rfl
set_option maxRecDepth 100000 in
theorem ok_X17_use_0 : ∀ q ∈ tl_X17_use, IOK WB AD SR FW TB md_X17_use q.1 q.2 := List.forall_mem_cons.mpr ⟨r_X17_use_0, List.forall_mem_cons.mpr ⟨r_X17_use_1, List.forall_mem_cons.mpr ⟨r_X17_use_2, List.forall_mem_cons.mpr ⟨r_X17_use_3, List.forall_mem_cons.mpr ⟨r_X17_use_4, List.forall_mem_cons.mpr ⟨r_X17_use_7, List.forall_mem_cons.mpr ⟨r_X17_use_12, List.forall_mem_cons.mpr ⟨r_X17_use_13, List.forall_mem_cons.mpr ⟨r_X17_use_14, List.forall_mem_cons.mpr ⟨r_X17_use_17, List.forall_mem_cons.mpr ⟨r_X17_use_20, List.forall_mem_cons.mpr ⟨r_X17_use_21, List.forall_mem_cons.mpr ⟨r_X17_use_43, List.forall_mem_cons.mpr ⟨r_X17_use_46, List.forall_mem_cons.mpr ⟨r_X17_use_47, List.forall_mem_cons.mpr ⟨r_X17_use_50, List.forall_mem_cons.mpr ⟨r_X17_use_53, List.forall_mem_cons.mpr ⟨r_X17_use_54, List.forall_mem_cons.mpr ⟨r_X17_use_73, fun _ h => absurd h List.not_mem_nil⟩⟩⟩⟩⟩⟩⟩⟩⟩⟩⟩⟩⟩⟩⟩⟩⟩⟩⟩
set_option maxRecDepth 100000 in
theorem tq_X17_use_0 : tf_X17_use = tl_X17_use.map (fun q => (q.1, stepOf NPf md_X17_use q.2)) := rfl
theorem ro_X17_use : RowsOK (md_X17_use, tl_X17_use) tf_X17_use := ⟨tq_X17_use_0, ok_X17_use_0⟩
theorem r_X17_joins_0 : IOK WB AD SR FW TB md_X17_joins 0 (.aload_n 0, 0, 0, 0, []) := io_plain (by decide +kernel) rfl
theorem r_X17_joins_1 : IOK WB AD SR FW TB md_X17_joins 1 (.invokevirtual 476, 58, 18, 0, []) := io_virt (by decide +kernel) tb_X17_allPairs (wb_9 209 rfl rfl) in_X17_allPairs se_X17_allPairs ⟨_, rfl, rfl⟩ pr_X17_allPairs (by decide)
theorem r_X17_joins_4 : IOK WB AD SR FW TB md_X17_joins 4 (.astore_n 2, 0, 0, 0, []) := io_plain (by decide +kernel) rfl
theorem r_X17_joins_5 : IOK WB AD SR FW TB md_X17_joins 5 (.aload_n 0, 0, 0, 0, []) := io_plain (by decide +kernel) rfl
theorem r_X17_joins_6 : IOK WB AD SR FW TB md_X17_joins 6 (.iload_n 1, 0, 0, 0, []) := io_plain (by decide +kernel) rfl
theorem r_X17_joins_7 : IOK WB AD SR FW TB md_X17_joins 7 (.iconst 0, 0, 0, 0, []) := io_plain (by decide +kernel) rfl
theorem r_X17_joins_8 : IOK WB AD SR FW TB md_X17_joins 8 (.aload_n 2, 0, 0, 0, []) := io_plain (by decide +kernel) rfl
theorem r_X17_joins_9 : IOK WB AD SR FW TB md_X17_joins 9 (.invokeinterface 271 1, 30, 0, 0, []) := io_face (by decide +kernel) tb_Jx4a65c_size_8abf5 (List.mem_of_getElem? (i := 0) rfl) (wb_8 32 rfl rfl) in_Jx4a65c_size_8abf5 (wb_8 35 rfl rfl) rfl rfl rfl pr_Jx4a65c_size_8abf5 (by decide)
theorem r_X17_joins_14 : IOK WB AD SR FW TB md_X17_joins 14 (.iconst 1, 0, 0, 0, []) := io_plain (by decide +kernel) rfl
theorem r_X17_joins_15 : IOK WB AD SR FW TB md_X17_joins 15 (.isub, 0, 0, 0, []) := io_plain (by decide +kernel) rfl
theorem r_X17_joins_16 : IOK WB AD SR FW TB md_X17_joins 16 (.invokestatic 370, 19, 18, 0, []) := io_stat (by decide +kernel) tb_X17_isIn (wb_9 104 rfl rfl) st_X17_isIn pr_X17_isIn
theorem r_X17_joins_19 : IOK WB AD SR FW TB md_X17_joins 19 (.ifCond .eq 7, 0, 0, 0, []) := io_plain (by decide +kernel) rfl
theorem r_X17_joins_26 : IOK WB AD SR FW TB md_X17_joins 26 (.iconst 1, 0, 0, 0, []) := io_plain (by decide +kernel) rfl
theorem r_X17_joins_27 : IOK WB AD SR FW TB md_X17_joins 27 (.putfield 114, 18, 0, 0, []) := io_put (by decide +kernel) fo_RX17_114 po_RX17_0_18_0_0
theorem r_X17_joins_30 : IOK WB AD SR FW TB md_X17_joins 30 (.aload_n 0, 0, 0, 0, []) := io_plain (by decide +kernel) rfl
theorem r_X17_joins_31 : IOK WB AD SR FW TB md_X17_joins 31 (.getfield 114, 18, 0, 0, []) := io_get (by decide +kernel) fo_RX17_114
theorem r_X17_joins_34 : IOK WB AD SR FW TB md_X17_joins 34 (.ifCond .le 5, 0, 0, 0, []) := io_plain (by decide +kernel) rfl
theorem r_X17_joins_37 : IOK WB AD SR FW TB md_X17_joins 37 (.iconst 0, 0, 0, 0, []) := io_plain (by decide +kernel) rfl
theorem r_X17_joins_38 : IOK WB AD SR FW TB md_X17_joins 38 (.ireturn, 0, 0, 0, []) := io_plain (by decide +kernel) rfl
set_option maxRecDepth 100000 in
theorem ok_X17_joins_0 : ∀ q ∈ tl_X17_joins, IOK WB AD SR FW TB md_X17_joins q.1 q.2 := List.forall_mem_cons.mpr ⟨r_X17_joins_0, List.forall_mem_cons.mpr ⟨r_X17_joins_1, List.forall_mem_cons.mpr ⟨r_X17_joins_4, List.forall_mem_cons.mpr ⟨r_X17_joins_5, List.forall_mem_cons.mpr ⟨r_X17_joins_6, List.forall_mem_cons.mpr ⟨r_X17_joins_7, List.forall_mem_cons.mpr ⟨r_X17_joins_8, List.forall_mem_cons.mpr ⟨r_X17_joins_9, List.forall_mem_cons.mpr ⟨r_X17_joins_14, List.forall_mem_cons.mpr ⟨r_X17_joins_15, List.forall_mem_cons.mpr ⟨r_X17_joins_16, List.forall_mem_cons.mpr ⟨r_X17_joins_19, List.forall_mem_cons.mpr ⟨r_X17_joins_26, List.forall_mem_cons.mpr ⟨r_X17_joins_27, List.forall_mem_cons.mpr ⟨r_X17_joins_30, List.forall_mem_cons.mpr ⟨r_X17_joins_31, List.forall_mem_cons.mpr ⟨r_X17_joins_34, List.forall_mem_cons.mpr ⟨r_X17_joins_37, List.forall_mem_cons.mpr ⟨r_X17_joins_38, fun _ h => absurd h List.not_mem_nil⟩⟩⟩⟩⟩⟩⟩⟩⟩⟩⟩⟩⟩⟩⟩⟩⟩⟩⟩
set_option maxRecDepth 100000 in
theorem tq_X17_joins_0 : tf_X17_joins = tl_X17_joins.map (fun q => (q.1, stepOf NPf md_X17_joins q.2)) := rfl
theorem ro_X17_joins : RowsOK (md_X17_joins, tl_X17_joins) tf_X17_joins := ⟨tq_X17_joins_0, ok_X17_joins_0⟩
theorem r_X17_state_0 : IOK WB AD SR FW TB md_X17_state 0 (.aload_n 0, 0, 0, 0, []) := io_plain (by decide +kernel) rfl
theorem r_X17_state_1 : IOK WB AD SR FW TB md_X17_state 1 (.iload_n 1, 0, 0, 0, []) := io_plain (by decide +kernel) rfl
theorem r_X17_state_2 : IOK WB AD SR FW TB md_X17_state 2 (.iconst 0, 0, 0, 0, []) := io_plain (by decide +kernel) rfl
theorem r_X17_state_3 : IOK WB AD SR FW TB md_X17_state 3 (.aload_n 0, 0, 0, 0, []) := io_plain (by decide +kernel) rfl
theorem r_X17_state_4 : IOK WB AD SR FW TB md_X17_state 4 (.getfield 63, 18, 20, 2, []) := io_get (by decide +kernel) fo_RX17_63
theorem r_X17_state_7 : IOK WB AD SR FW TB md_X17_state 7 (.invokeinterface 271 1, 30, 0, 0, []) := io_face (by decide +kernel) tb_Jx4a65c_size_8abf5 (List.mem_of_getElem? (i := 0) rfl) (wb_8 32 rfl rfl) in_Jx4a65c_size_8abf5 (wb_8 35 rfl rfl) rfl rfl rfl pr_Jx4a65c_size_8abf5 (by decide)
theorem r_X17_state_12 : IOK WB AD SR FW TB md_X17_state 12 (.iconst 1, 0, 0, 0, []) := io_plain (by decide +kernel) rfl
theorem r_X17_state_13 : IOK WB AD SR FW TB md_X17_state 13 (.isub, 0, 0, 0, []) := io_plain (by decide +kernel) rfl
theorem r_X17_state_14 : IOK WB AD SR FW TB md_X17_state 14 (.invokestatic 370, 19, 18, 0, []) := io_stat (by decide +kernel) tb_X17_isIn (wb_9 104 rfl rfl) st_X17_isIn pr_X17_isIn
theorem r_X17_state_17 : IOK WB AD SR FW TB md_X17_state 17 (.ifCond .ne 7, 0, 0, 0, []) := io_plain (by decide +kernel) rfl
theorem r_X17_state_20 : IOK WB AD SR FW TB md_X17_state 20 (.iconst 1, 0, 0, 0, []) := io_plain (by decide +kernel) rfl
theorem r_X17_state_21 : IOK WB AD SR FW TB md_X17_state 21 (.goto 22, 0, 0, 0, []) := io_plain (by decide +kernel) rfl
theorem r_X17_state_43 : IOK WB AD SR FW TB md_X17_state 43 (.putfield 114, 18, 0, 0, []) := io_put (by decide +kernel) fo_RX17_114 po_RX17_0_18_0_0
theorem r_X17_state_46 : IOK WB AD SR FW TB md_X17_state 46 (.aload_n 0, 0, 0, 0, []) := io_plain (by decide +kernel) rfl
theorem r_X17_state_47 : IOK WB AD SR FW TB md_X17_state 47 (.getfield 114, 18, 0, 0, []) := io_get (by decide +kernel) fo_RX17_114
theorem r_X17_state_50 : IOK WB AD SR FW TB md_X17_state 50 (.ifCond .le 5, 0, 0, 0, []) := io_plain (by decide +kernel) rfl
theorem r_X17_state_53 : IOK WB AD SR FW TB md_X17_state 53 (.iconst 0, 0, 0, 0, []) := io_plain (by decide +kernel) rfl
theorem r_X17_state_54 : IOK WB AD SR FW TB md_X17_state 54 (.ireturn, 0, 0, 0, []) := io_plain (by decide +kernel) rfl
set_option maxRecDepth 100000 in
theorem ok_X17_state_0 : ∀ q ∈ tl_X17_state, IOK WB AD SR FW TB md_X17_state q.1 q.2 := List.forall_mem_cons.mpr ⟨r_X17_state_0, List.forall_mem_cons.mpr ⟨r_X17_state_1, List.forall_mem_cons.mpr ⟨r_X17_state_2, List.forall_mem_cons.mpr ⟨r_X17_state_3, List.forall_mem_cons.mpr ⟨r_X17_state_4, List.forall_mem_cons.mpr ⟨r_X17_state_7, List.forall_mem_cons.mpr ⟨r_X17_state_12, List.forall_mem_cons.mpr ⟨r_X17_state_13, List.forall_mem_cons.mpr ⟨r_X17_state_14, List.forall_mem_cons.mpr ⟨r_X17_state_17, List.forall_mem_cons.mpr ⟨r_X17_state_20, List.forall_mem_cons.mpr ⟨r_X17_state_21, List.forall_mem_cons.mpr ⟨r_X17_state_43, List.forall_mem_cons.mpr ⟨r_X17_state_46, List.forall_mem_cons.mpr ⟨r_X17_state_47, List.forall_mem_cons.mpr ⟨r_X17_state_50, List.forall_mem_cons.mpr ⟨r_X17_state_53, List.forall_mem_cons.mpr ⟨r_X17_state_54, fun _ h => absurd h List.not_mem_nil⟩⟩⟩⟩⟩⟩⟩⟩⟩⟩⟩⟩⟩⟩⟩⟩⟩⟩
set_option maxRecDepth 100000 in
theorem tq_X17_state_0 : tf_X17_state = tl_X17_state.map (fun q => (q.1, stepOf NPf md_X17_state q.2)) := rfl
theorem ro_X17_state : RowsOK (md_X17_state, tl_X17_state) tf_X17_state := ⟨tq_X17_state_0, ok_X17_state_0⟩
theorem r_X17_cameBy_0 : IOK WB AD SR FW TB md_X17_cameBy 0 (.aload_n 0, 0, 0, 0, []) := io_plain (by decide +kernel) rfl
theorem r_X17_cameBy_1 : IOK WB AD SR FW TB md_X17_cameBy 1 (.iload_n 1, 0, 0, 0, []) := io_plain (by decide +kernel) rfl
theorem r_X17_cameBy_2 : IOK WB AD SR FW TB md_X17_cameBy 2 (.iconst 1, 0, 0, 0, []) := io_plain (by decide +kernel) rfl
theorem r_X17_cameBy_3 : IOK WB AD SR FW TB md_X17_cameBy 3 (.aload_n 0, 0, 0, 0, []) := io_plain (by decide +kernel) rfl
theorem r_X17_cameBy_4 : IOK WB AD SR FW TB md_X17_cameBy 4 (.getfield 63, 18, 20, 2, []) := io_get (by decide +kernel) fo_RX17_63
theorem r_X17_cameBy_7 : IOK WB AD SR FW TB md_X17_cameBy 7 (.invokeinterface 271 1, 30, 0, 0, []) := io_face (by decide +kernel) tb_Jx4a65c_size_8abf5 (List.mem_of_getElem? (i := 0) rfl) (wb_8 32 rfl rfl) in_Jx4a65c_size_8abf5 (wb_8 35 rfl rfl) rfl rfl rfl pr_Jx4a65c_size_8abf5 (by decide)
theorem r_X17_cameBy_12 : IOK WB AD SR FW TB md_X17_cameBy 12 (.iconst 1, 0, 0, 0, []) := io_plain (by decide +kernel) rfl
theorem r_X17_cameBy_13 : IOK WB AD SR FW TB md_X17_cameBy 13 (.isub, 0, 0, 0, []) := io_plain (by decide +kernel) rfl
theorem r_X17_cameBy_14 : IOK WB AD SR FW TB md_X17_cameBy 14 (.invokestatic 370, 19, 18, 0, []) := io_stat (by decide +kernel) tb_X17_isIn (wb_9 104 rfl rfl) st_X17_isIn pr_X17_isIn
theorem r_X17_cameBy_17 : IOK WB AD SR FW TB md_X17_cameBy 17 (.ifCond .eq 7, 0, 0, 0, []) := io_plain (by decide +kernel) rfl
theorem r_X17_cameBy_24 : IOK WB AD SR FW TB md_X17_cameBy 24 (.iconst 1, 0, 0, 0, []) := io_plain (by decide +kernel) rfl
theorem r_X17_cameBy_25 : IOK WB AD SR FW TB md_X17_cameBy 25 (.putfield 114, 18, 0, 0, []) := io_put (by decide +kernel) fo_RX17_114 po_RX17_0_18_0_0
theorem r_X17_cameBy_28 : IOK WB AD SR FW TB md_X17_cameBy 28 (.aload_n 0, 0, 0, 0, []) := io_plain (by decide +kernel) rfl
theorem r_X17_cameBy_29 : IOK WB AD SR FW TB md_X17_cameBy 29 (.getfield 114, 18, 0, 0, []) := io_get (by decide +kernel) fo_RX17_114
theorem r_X17_cameBy_32 : IOK WB AD SR FW TB md_X17_cameBy 32 (.ifCond .le 7, 0, 0, 0, []) := io_plain (by decide +kernel) rfl
theorem r_X17_cameBy_35 : IOK WB AD SR FW TB md_X17_cameBy 35 (.iconst 0, 0, 0, 0, []) := io_plain (by decide +kernel) rfl
theorem r_X17_cameBy_36 : IOK WB AD SR FW TB md_X17_cameBy 36 (.goto 9, 0, 0, 0, []) := io_plain (by decide +kernel) rfl
theorem r_X17_cameBy_45 : IOK WB AD SR FW TB md_X17_cameBy 45 (.ireturn, 0, 0, 0, []) := io_plain (by decide +kernel) rfl
set_option maxRecDepth 100000 in
theorem ok_X17_cameBy_0 : ∀ q ∈ tl_X17_cameBy, IOK WB AD SR FW TB md_X17_cameBy q.1 q.2 := List.forall_mem_cons.mpr ⟨r_X17_cameBy_0, List.forall_mem_cons.mpr ⟨r_X17_cameBy_1, List.forall_mem_cons.mpr ⟨r_X17_cameBy_2, List.forall_mem_cons.mpr ⟨r_X17_cameBy_3, List.forall_mem_cons.mpr ⟨r_X17_cameBy_4, List.forall_mem_cons.mpr ⟨r_X17_cameBy_7, List.forall_mem_cons.mpr ⟨r_X17_cameBy_12, List.forall_mem_cons.mpr ⟨r_X17_cameBy_13, List.forall_mem_cons.mpr ⟨r_X17_cameBy_14, List.forall_mem_cons.mpr ⟨r_X17_cameBy_17, List.forall_mem_cons.mpr ⟨r_X17_cameBy_24, List.forall_mem_cons.mpr ⟨r_X17_cameBy_25, List.forall_mem_cons.mpr ⟨r_X17_cameBy_28, List.forall_mem_cons.mpr ⟨r_X17_cameBy_29, List.forall_mem_cons.mpr ⟨r_X17_cameBy_32, List.forall_mem_cons.mpr ⟨r_X17_cameBy_35, List.forall_mem_cons.mpr ⟨r_X17_cameBy_36, List.forall_mem_cons.mpr ⟨r_X17_cameBy_45, fun _ h => absurd h List.not_mem_nil⟩⟩⟩⟩⟩⟩⟩⟩⟩⟩⟩⟩⟩⟩⟩⟩⟩⟩
set_option maxRecDepth 100000 in
theorem tq_X17_cameBy_0 : tf_X17_cameBy = tl_X17_cameBy.map (fun q => (q.1, stepOf NPf md_X17_cameBy q.2)) := rfl
theorem ro_X17_cameBy : RowsOK (md_X17_cameBy, tl_X17_cameBy) tf_X17_cameBy := ⟨tq_X17_cameBy_0, ok_X17_cameBy_0⟩
theorem r_X17_allPairs_0 : IOK WB AD SR FW TB md_X17_allPairs 0 (.aload_n 0, 0, 0, 0, []) := io_plain (by decide +kernel) rfl
theorem r_X17_allPairs_1 : IOK WB AD SR FW TB md_X17_allPairs 1 (.getfield 465, 18, 43, 0, []) := io_get (by decide +kernel) fo_RX17_465
theorem r_X17_allPairs_4 : IOK WB AD SR FW TB md_X17_allPairs 4 (.aload_n 0, 0, 0, 0, []) := io_plain (by decide +kernel) rfl
theorem r_X17_allPairs_5 : IOK WB AD SR FW TB md_X17_allPairs 5 (.getfield 54, 18, 15, 2, []) := io_get (by decide +kernel) fo_RX17_54
theorem r_X17_allPairs_8 : IOK WB AD SR FW TB md_X17_allPairs 8 (.invokeinterface 271 1, 30, 0, 0, []) := io_face (by decide +kernel) tb_Jx4a65c_size_8abf5 (List.mem_of_getElem? (i := 0) rfl) (wb_8 32 rfl rfl) in_Jx4a65c_size_8abf5 (wb_8 35 rfl rfl) rfl rfl rfl pr_Jx4a65c_size_8abf5 (by decide)
theorem r_X17_allPairs_13 : IOK WB AD SR FW TB md_X17_allPairs 13 (.if_icmp .ne 8, 0, 0, 0, []) := io_plain (by decide +kernel) rfl
theorem r_X17_allPairs_16 : IOK WB AD SR FW TB md_X17_allPairs 16 (.aload_n 0, 0, 0, 0, []) := io_plain (by decide +kernel) rfl
theorem r_X17_allPairs_17 : IOK WB AD SR FW TB md_X17_allPairs 17 (.getfield 105, 18, 42, 2, []) := io_get (by decide +kernel) fo_RX17_105
theorem r_X17_allPairs_20 : IOK WB AD SR FW TB md_X17_allPairs 20 (.areturn, 0, 0, 0, []) := io_aret (by decide +kernel) rfl
set_option maxRecDepth 100000 in
theorem ok_X17_allPairs_0 : ∀ q ∈ tl_X17_allPairs, IOK WB AD SR FW TB md_X17_allPairs q.1 q.2 := List.forall_mem_cons.mpr ⟨r_X17_allPairs_0, List.forall_mem_cons.mpr ⟨r_X17_allPairs_1, List.forall_mem_cons.mpr ⟨r_X17_allPairs_4, List.forall_mem_cons.mpr ⟨r_X17_allPairs_5, List.forall_mem_cons.mpr ⟨r_X17_allPairs_8, List.forall_mem_cons.mpr ⟨r_X17_allPairs_13, List.forall_mem_cons.mpr ⟨r_X17_allPairs_16, List.forall_mem_cons.mpr ⟨r_X17_allPairs_17, List.forall_mem_cons.mpr ⟨r_X17_allPairs_20, fun _ h => absurd h List.not_mem_nil⟩⟩⟩⟩⟩⟩⟩⟩⟩
set_option maxRecDepth 100000 in
theorem tq_X17_allPairs_0 : tf_X17_allPairs = tl_X17_allPairs.map (fun q => (q.1, stepOf NPf md_X17_allPairs q.2)) := rfl
theorem ro_X17_allPairs : RowsOK (md_X17_allPairs, tl_X17_allPairs) tf_X17_allPairs := ⟨tq_X17_allPairs_0, ok_X17_allPairs_0⟩
theorem r_X17_copy_0 : IOK WB AD SR FW TB md_X17_copy 0 (.aload_n 0, 0, 0, 0, []) := io_plain (by decide +kernel) rfl
theorem r_X17_copy_1 : IOK WB AD SR FW TB md_X17_copy 1 (.iload_n 1, 0, 0, 0, []) := io_plain (by decide +kernel) rfl
theorem r_X17_copy_2 : IOK WB AD SR FW TB md_X17_copy 2 (.iconst 0, 0, 0, 0, []) := io_plain (by decide +kernel) rfl
theorem r_X17_copy_3 : IOK WB AD SR FW TB md_X17_copy 3 (.aload_n 0, 0, 0, 0, []) := io_plain (by decide +kernel) rfl
theorem r_X17_copy_4 : IOK WB AD SR FW TB md_X17_copy 4 (.getfield 54, 18, 15, 2, []) := io_get (by decide +kernel) fo_RX17_54
theorem r_X17_copy_7 : IOK WB AD SR FW TB md_X17_copy 7 (.invokeinterface 271 1, 30, 0, 0, []) := io_face (by decide +kernel) tb_Jx4a65c_size_8abf5 (List.mem_of_getElem? (i := 0) rfl) (wb_8 32 rfl rfl) in_Jx4a65c_size_8abf5 (wb_8 35 rfl rfl) rfl rfl rfl pr_Jx4a65c_size_8abf5 (by decide)
theorem r_X17_copy_12 : IOK WB AD SR FW TB md_X17_copy 12 (.iconst 1, 0, 0, 0, []) := io_plain (by decide +kernel) rfl
theorem r_X17_copy_13 : IOK WB AD SR FW TB md_X17_copy 13 (.isub, 0, 0, 0, []) := io_plain (by decide +kernel) rfl
theorem r_X17_copy_14 : IOK WB AD SR FW TB md_X17_copy 14 (.invokestatic 370, 19, 18, 0, []) := io_stat (by decide +kernel) tb_X17_isIn (wb_9 104 rfl rfl) st_X17_isIn pr_X17_isIn
theorem r_X17_copy_17 : IOK WB AD SR FW TB md_X17_copy 17 (.ifCond .ne 7, 0, 0, 0, []) := io_plain (by decide +kernel) rfl
theorem r_X17_copy_20 : IOK WB AD SR FW TB md_X17_copy 20 (.iconst 1, 0, 0, 0, []) := io_plain (by decide +kernel) rfl
theorem r_X17_copy_21 : IOK WB AD SR FW TB md_X17_copy 21 (.goto 22, 0, 0, 0, []) := io_plain (by decide +kernel) rfl
theorem r_X17_copy_43 : IOK WB AD SR FW TB md_X17_copy 43 (.putfield 114, 18, 0, 0, []) := io_put (by decide +kernel) fo_RX17_114 po_RX17_0_18_0_0
theorem r_X17_copy_46 : IOK WB AD SR FW TB md_X17_copy 46 (.aload_n 0, 0, 0, 0, []) := io_plain (by decide +kernel) rfl
theorem r_X17_copy_47 : IOK WB AD SR FW TB md_X17_copy 47 (.getfield 114, 18, 0, 0, []) := io_get (by decide +kernel) fo_RX17_114
theorem r_X17_copy_50 : IOK WB AD SR FW TB md_X17_copy 50 (.ifCond .le 5, 0, 0, 0, []) := io_plain (by decide +kernel) rfl
theorem r_X17_copy_53 : IOK WB AD SR FW TB md_X17_copy 53 (.iconst 0, 0, 0, 0, []) := io_plain (by decide +kernel) rfl
theorem r_X17_copy_54 : IOK WB AD SR FW TB md_X17_copy 54 (.ireturn, 0, 0, 0, []) := io_plain (by decide +kernel) rfl
set_option maxRecDepth 100000 in
theorem ok_X17_copy_0 : ∀ q ∈ tl_X17_copy, IOK WB AD SR FW TB md_X17_copy q.1 q.2 := List.forall_mem_cons.mpr ⟨r_X17_copy_0, List.forall_mem_cons.mpr ⟨r_X17_copy_1, List.forall_mem_cons.mpr ⟨r_X17_copy_2, List.forall_mem_cons.mpr ⟨r_X17_copy_3, List.forall_mem_cons.mpr ⟨r_X17_copy_4, List.forall_mem_cons.mpr ⟨r_X17_copy_7, List.forall_mem_cons.mpr ⟨r_X17_copy_12, List.forall_mem_cons.mpr ⟨r_X17_copy_13, List.forall_mem_cons.mpr ⟨r_X17_copy_14, List.forall_mem_cons.mpr ⟨r_X17_copy_17, List.forall_mem_cons.mpr ⟨r_X17_copy_20, List.forall_mem_cons.mpr ⟨r_X17_copy_21, List.forall_mem_cons.mpr ⟨r_X17_copy_43, List.forall_mem_cons.mpr ⟨r_X17_copy_46, List.forall_mem_cons.mpr ⟨r_X17_copy_47, List.forall_mem_cons.mpr ⟨r_X17_copy_50, List.forall_mem_cons.mpr ⟨r_X17_copy_53, List.forall_mem_cons.mpr ⟨r_X17_copy_54, fun _ h => absurd h List.not_mem_nil⟩⟩⟩⟩⟩⟩⟩⟩⟩⟩⟩⟩⟩⟩⟩⟩⟩⟩
set_option maxRecDepth 100000 in
theorem tq_X17_copy_0 : tf_X17_copy = tl_X17_copy.map (fun q => (q.1, stepOf NPf md_X17_copy q.2)) := rfl
theorem ro_X17_copy : RowsOK (md_X17_copy, tl_X17_copy) tf_X17_copy := ⟨tq_X17_copy_0, ok_X17_copy_0⟩
theorem r_X17_descends_0 : IOK WB AD SR FW TB md_X17_descends 0 (.aload_n 0, 0, 0, 0, []) := io_plain (by decide +kernel) rfl
theorem r_X17_descends_1 : IOK WB AD SR FW TB md_X17_descends 1 (.iload_n 1, 0, 0, 0, []) := io_plain (by decide +kernel) rfl
theorem r_X17_descends_2 : IOK WB AD SR FW TB md_X17_descends 2 (.iconst 0, 0, 0, 0, []) := io_plain (by decide +kernel) rfl
theorem r_X17_descends_3 : IOK WB AD SR FW TB md_X17_descends 3 (.aload_n 0, 0, 0, 0, []) := io_plain (by decide +kernel) rfl
theorem r_X17_descends_4 : IOK WB AD SR FW TB md_X17_descends 4 (.getfield 54, 18, 15, 2, []) := io_get (by decide +kernel) fo_RX17_54
theorem r_X17_descends_7 : IOK WB AD SR FW TB md_X17_descends 7 (.invokeinterface 271 1, 30, 0, 0, []) := io_face (by decide +kernel) tb_Jx4a65c_size_8abf5 (List.mem_of_getElem? (i := 0) rfl) (wb_8 32 rfl rfl) in_Jx4a65c_size_8abf5 (wb_8 35 rfl rfl) rfl rfl rfl pr_Jx4a65c_size_8abf5 (by decide)
theorem r_X17_descends_12 : IOK WB AD SR FW TB md_X17_descends 12 (.iconst 1, 0, 0, 0, []) := io_plain (by decide +kernel) rfl
theorem r_X17_descends_13 : IOK WB AD SR FW TB md_X17_descends 13 (.isub, 0, 0, 0, []) := io_plain (by decide +kernel) rfl
theorem r_X17_descends_14 : IOK WB AD SR FW TB md_X17_descends 14 (.invokestatic 370, 19, 18, 0, []) := io_stat (by decide +kernel) tb_X17_isIn (wb_9 104 rfl rfl) st_X17_isIn pr_X17_isIn
theorem r_X17_descends_17 : IOK WB AD SR FW TB md_X17_descends 17 (.ifCond .eq 7, 0, 0, 0, []) := io_plain (by decide +kernel) rfl
theorem r_X17_descends_24 : IOK WB AD SR FW TB md_X17_descends 24 (.iconst 1, 0, 0, 0, []) := io_plain (by decide +kernel) rfl
theorem r_X17_descends_25 : IOK WB AD SR FW TB md_X17_descends 25 (.putfield 114, 18, 0, 0, []) := io_put (by decide +kernel) fo_RX17_114 po_RX17_0_18_0_0
theorem r_X17_descends_28 : IOK WB AD SR FW TB md_X17_descends 28 (.aload_n 0, 0, 0, 0, []) := io_plain (by decide +kernel) rfl
theorem r_X17_descends_29 : IOK WB AD SR FW TB md_X17_descends 29 (.getfield 114, 18, 0, 0, []) := io_get (by decide +kernel) fo_RX17_114
theorem r_X17_descends_32 : IOK WB AD SR FW TB md_X17_descends 32 (.ifCond .ne 46, 0, 0, 0, []) := io_plain (by decide +kernel) rfl
theorem r_X17_descends_78 : IOK WB AD SR FW TB md_X17_descends 78 (.iconst 0, 0, 0, 0, []) := io_plain (by decide +kernel) rfl
theorem r_X17_descends_79 : IOK WB AD SR FW TB md_X17_descends 79 (.ireturn, 0, 0, 0, []) := io_plain (by decide +kernel) rfl
set_option maxRecDepth 100000 in
theorem ok_X17_descends_0 : ∀ q ∈ tl_X17_descends, IOK WB AD SR FW TB md_X17_descends q.1 q.2 := List.forall_mem_cons.mpr ⟨r_X17_descends_0, List.forall_mem_cons.mpr ⟨r_X17_descends_1, List.forall_mem_cons.mpr ⟨r_X17_descends_2, List.forall_mem_cons.mpr ⟨r_X17_descends_3, List.forall_mem_cons.mpr ⟨r_X17_descends_4, List.forall_mem_cons.mpr ⟨r_X17_descends_7, List.forall_mem_cons.mpr ⟨r_X17_descends_12, List.forall_mem_cons.mpr ⟨r_X17_descends_13, List.forall_mem_cons.mpr ⟨r_X17_descends_14, List.forall_mem_cons.mpr ⟨r_X17_descends_17, List.forall_mem_cons.mpr ⟨r_X17_descends_24, List.forall_mem_cons.mpr ⟨r_X17_descends_25, List.forall_mem_cons.mpr ⟨r_X17_descends_28, List.forall_mem_cons.mpr ⟨r_X17_descends_29, List.forall_mem_cons.mpr ⟨r_X17_descends_32, List.forall_mem_cons.mpr ⟨r_X17_descends_78, List.forall_mem_cons.mpr ⟨r_X17_descends_79, fun _ h => absurd h List.not_mem_nil⟩⟩⟩⟩⟩⟩⟩⟩⟩⟩⟩⟩⟩⟩⟩⟩⟩
set_option maxRecDepth 100000 in
theorem tq_X17_descends_0 : tf_X17_descends = tl_X17_descends.map (fun q => (q.1, stepOf NPf md_X17_descends q.2)) := rfl
theorem ro_X17_descends : RowsOK (md_X17_descends, tl_X17_descends) tf_X17_descends := ⟨tq_X17_descends_0, ok_X17_descends_0⟩
theorem r_X17_isSort_0 : IOK WB AD SR FW TB md_X17_isSort 0 (.iload_n 1, 0, 0, 0, []) := io_plain (by decide +kernel) rfl
theorem r_X17_isSort_1 : IOK WB AD SR FW TB md_X17_isSort 1 (.iconst 0, 0, 0, 0, []) := io_plain (by decide +kernel) rfl
theorem r_X17_isSort_2 : IOK WB AD SR FW TB md_X17_isSort 2 (.aload_n 0, 0, 0, 0, []) := io_plain (by decide +kernel) rfl
theorem r_X17_isSort_3 : IOK WB AD SR FW TB md_X17_isSort 3 (.getfield 528, 18, 1, 0, []) := io_get (by decide +kernel) fo_RX17_528
theorem r_X17_isSort_6 : IOK WB AD SR FW TB md_X17_isSort 6 (.iconst 1, 0, 0, 0, []) := io_plain (by decide +kernel) rfl
theorem r_X17_isSort_7 : IOK WB AD SR FW TB md_X17_isSort 7 (.isub, 0, 0, 0, []) := io_plain (by decide +kernel) rfl
theorem r_X17_isSort_8 : IOK WB AD SR FW TB md_X17_isSort 8 (.invokestatic 370, 19, 18, 0, []) := io_stat (by decide +kernel) tb_X17_isIn (wb_9 104 rfl rfl) st_X17_isIn pr_X17_isIn
theorem r_X17_isSort_11 : IOK WB AD SR FW TB md_X17_isSort 11 (.ireturn, 0, 0, 0, []) := io_plain (by decide +kernel) rfl
set_option maxRecDepth 100000 in
theorem ok_X17_isSort_0 : ∀ q ∈ tl_X17_isSort, IOK WB AD SR FW TB md_X17_isSort q.1 q.2 := List.forall_mem_cons.mpr ⟨r_X17_isSort_0, List.forall_mem_cons.mpr ⟨r_X17_isSort_1, List.forall_mem_cons.mpr ⟨r_X17_isSort_2, List.forall_mem_cons.mpr ⟨r_X17_isSort_3, List.forall_mem_cons.mpr ⟨r_X17_isSort_6, List.forall_mem_cons.mpr ⟨r_X17_isSort_7, List.forall_mem_cons.mpr ⟨r_X17_isSort_8, List.forall_mem_cons.mpr ⟨r_X17_isSort_11, fun _ h => absurd h List.not_mem_nil⟩⟩⟩⟩⟩⟩⟩⟩
set_option maxRecDepth 100000 in
theorem tq_X17_isSort_0 : tf_X17_isSort = tl_X17_isSort.map (fun q => (q.1, stepOf NPf md_X17_isSort q.2)) := rfl
theorem ro_X17_isSort : RowsOK (md_X17_isSort, tl_X17_isSort) tf_X17_isSort := ⟨tq_X17_isSort_0, ok_X17_isSort_0⟩
theorem r_X17_apply_0 : IOK WB AD SR FW TB md_X17_apply 0 (.aload_n 0, 0, 0, 0, []) := io_plain (by decide +kernel) rfl
theorem r_X17_apply_1 : IOK WB AD SR FW TB md_X17_apply 1 (.iload_n 1, 0, 0, 0, []) := io_plain (by decide +kernel) rfl
theorem r_X17_apply_2 : IOK WB AD SR FW TB md_X17_apply 2 (.iconst 0, 0, 0, 0, []) := io_plain (by decide +kernel) rfl
theorem r_X17_apply_3 : IOK WB AD SR FW TB md_X17_apply 3 (.aload_n 0, 0, 0, 0, []) := io_plain (by decide +kernel) rfl
theorem r_X17_apply_4 : IOK WB AD SR FW TB md_X17_apply 4 (.getfield 493, 18, 4, 0, []) := io_get (by decide +kernel) fo_RX17_493
theorem r_X17_apply_7 : IOK WB AD SR FW TB md_X17_apply 7 (.iconst 1, 0, 0, 0, []) := io_plain (by decide +kernel) rfl
theorem r_X17_apply_8 : IOK WB AD SR FW TB md_X17_apply 8 (.isub, 0, 0, 0, []) := io_plain (by decide +kernel) rfl
theorem r_X17_apply_9 : IOK WB AD SR FW TB md_X17_apply 9 (.invokestatic 370, 19, 18, 0, []) := io_stat (by decide +kernel) tb_X17_isIn (wb_9 104 rfl rfl) st_X17_isIn pr_X17_isIn
theorem r_X17_apply_12 : IOK WB AD SR FW TB md_X17_apply 12 (.ifCond .eq 7, 0, 0, 0, []) := io_plain (by decide +kernel) rfl
theorem r_X17_apply_19 : IOK WB AD SR FW TB md_X17_apply 19 (.iconst 1, 0, 0, 0, []) := io_plain (by decide +kernel) rfl
theorem r_X17_apply_20 : IOK WB AD SR FW TB md_X17_apply 20 (.putfield 114, 18, 0, 0, []) := io_put (by decide +kernel) fo_RX17_114 po_RX17_0_18_0_0
theorem r_X17_apply_23 : IOK WB AD SR FW TB md_X17_apply 23 (.aload_n 0, 0, 0, 0, []) := io_plain (by decide +kernel) rfl
theorem r_X17_apply_24 : IOK WB AD SR FW TB md_X17_apply 24 (.getfield 114, 18, 0, 0, []) := io_get (by decide +kernel) fo_RX17_114
theorem r_X17_apply_27 : IOK WB AD SR FW TB md_X17_apply 27 (.ifCond .le 5, 0, 0, 0, []) := io_plain (by decide +kernel) rfl
theorem r_X17_apply_30 : IOK WB AD SR FW TB md_X17_apply 30 (.iconst 0, 0, 0, 0, []) := io_plain (by decide +kernel) rfl
theorem r_X17_apply_31 : IOK WB AD SR FW TB md_X17_apply 31 (.ireturn, 0, 0, 0, []) := io_plain (by decide +kernel) rfl
set_option maxRecDepth 100000 in
theorem ok_X17_apply_0 : ∀ q ∈ tl_X17_apply, IOK WB AD SR FW TB md_X17_apply q.1 q.2 := List.forall_mem_cons.mpr ⟨r_X17_apply_0, List.forall_mem_cons.mpr ⟨r_X17_apply_1, List.forall_mem_cons.mpr ⟨r_X17_apply_2, List.forall_mem_cons.mpr ⟨r_X17_apply_3, List.forall_mem_cons.mpr ⟨r_X17_apply_4, List.forall_mem_cons.mpr ⟨r_X17_apply_7, List.forall_mem_cons.mpr ⟨r_X17_apply_8, List.forall_mem_cons.mpr ⟨r_X17_apply_9, List.forall_mem_cons.mpr ⟨r_X17_apply_12, List.forall_mem_cons.mpr ⟨r_X17_apply_19, List.forall_mem_cons.mpr ⟨r_X17_apply_20, List.forall_mem_cons.mpr ⟨r_X17_apply_23, List.forall_mem_cons.mpr ⟨r_X17_apply_24, List.forall_mem_cons.mpr ⟨r_X17_apply_27, List.forall_mem_cons.mpr ⟨r_X17_apply_30, List.forall_mem_cons.mpr ⟨r_X17_apply_31, fun _ h => absurd h List.not_mem_nil⟩⟩⟩⟩⟩⟩⟩⟩⟩⟩⟩⟩⟩⟩⟩⟩
set_option maxRecDepth 100000 in
theorem tq_X17_apply_0 : tf_X17_apply = tl_X17_apply.map (fun q => (q.1, stepOf NPf md_X17_apply q.2)) := rfl
