theorem r_X16_init__11 : IOK WB AD SR FW TB md_X16_init_ 11 (.putfield 15, 17, 0, 0, []) := io_put (by decide +kernel) fo_RX16_15 po_RX16_1_17_0_0
theorem r_X16_init__14 : IOK WB AD SR FW TB md_X16_init_ 14 (.aload_n 0, 0, 0, 0, []) := io_plain (by decide +kernel) rfl
theorem r_X16_init__15 : IOK WB AD SR FW TB md_X16_init_ 15 (.iload_n 1, 0, 0, 0, []) := io_plain (by decide +kernel) rfl
theorem r_X16_init__16 : IOK WB AD SR FW TB md_X16_init_ 16 (.putfield 18, 17, 1, 0, []) := io_put (by decide +kernel) fo_RX16_18 po_RX16_1_17_1_0
theorem r_X16_init__19 : IOK WB AD SR FW TB md_X16_init_ 19 (.aload_n 0, 0, 0, 0, []) := io_plain (by decide +kernel) rfl
theorem r_X16_init__20 : IOK WB AD SR FW TB md_X16_init_ 20 (.aload_n 2, 0, 0, 0, []) := io_plain (by decide +kernel) rfl
theorem r_X16_init__21 : IOK WB AD SR FW TB md_X16_init_ 21 (.putfield 21, 17, 2, 2, []) := io_put (by decide +kernel) fo_RX16_21 po_RX16_1_17_2_2
theorem r_X16_init__24 : IOK WB AD SR FW TB md_X16_init_ 24 (.aload_n 0, 0, 0, 0, []) := io_plain (by decide +kernel) rfl
theorem r_X16_init__25 : IOK WB AD SR FW TB md_X16_init_ 25 (.iload_n 3, 0, 0, 0, []) := io_plain (by decide +kernel) rfl
theorem r_X16_init__26 : IOK WB AD SR FW TB md_X16_init_ 26 (.putfield 25, 17, 3, 0, []) := io_put (by decide +kernel) fo_RX16_25 po_RX16_1_17_3_0
theorem r_X16_init__29 : IOK WB AD SR FW TB md_X16_init_ 29 (.return_, 0, 0, 0, []) := io_void (by decide +kernel) rfl
set_option maxRecDepth 100000 in
theorem ok_X16_init__0 : ∀ q ∈ tl_X16_init_, IOK WB AD SR FW TB md_X16_init_ q.1 q.2 := List.forall_mem_cons.mpr ⟨r_X16_init__0, List.forall_mem_cons.mpr ⟨r_X16_init__1, List.forall_mem_cons.mpr ⟨r_X16_init__4, List.forall_mem_cons.mpr ⟨r_X16_init__5, List.forall_mem_cons.mpr ⟨r_X16_init__6, List.forall_mem_cons.mpr ⟨r_X16_init__9, List.forall_mem_cons.mpr ⟨r_X16_init__10, List.forall_mem_cons.mpr ⟨r_X16_init__11, List.forall_mem_cons.mpr ⟨r_X16_init__14, List.forall_mem_cons.mpr ⟨r_X16_init__15, List.forall_mem_cons.mpr ⟨r_X16_init__16, List.forall_mem_cons.mpr ⟨r_X16_init__19, List.forall_mem_cons.mpr ⟨r_X16_init__20, List.forall_mem_cons.mpr ⟨r_X16_init__21, List.forall_mem_cons.mpr ⟨r_X16_init__24, List.forall_mem_cons.mpr ⟨r_X16_init__25, List.forall_mem_cons.mpr ⟨r_X16_init__26, List.forall_mem_cons.mpr ⟨r_X16_init__29, fun _ h => absurd h List.not_mem_nil⟩⟩⟩⟩⟩⟩⟩⟩⟩⟩⟩⟩⟩⟩⟩⟩⟩⟩
set_option maxRecDepth 100000 in
theorem tq_X16_init__0 : tf_X16_init_ = tl_X16_init_.map (fun q => (q.1, stepOf NPf md_X16_init_ q.2)) := rfl
theorem ro_X16_init_ : RowsOK (md_X16_init_, tl_X16_init_) tf_X16_init_ := ⟨tq_X16_init__0, ok_X16_init__0⟩
theorem r_Jx4a65c_elementData_915e3_0 : IOK WB AD SR FW TB md_Jx4a65c_elementData_915e3 0 (.aload_n 0, 0, 0, 0, []) := io_plain (by decide +kernel) rfl
theorem r_Jx4a65c_elementData_915e3_1 : IOK WB AD SR FW TB md_Jx4a65c_elementData_915e3 1 (.getfield 9, 0, 1, 2, []) := io_get (by decide +kernel) fo_RJx4a65c_9
theorem r_Jx4a65c_elementData_915e3_4 : IOK WB AD SR FW TB md_Jx4a65c_elementData_915e3 4 (.iload_n 1, 0, 0, 0, []) := io_plain (by decide +kernel) rfl
theorem r_Jx4a65c_elementData_915e3_5 : IOK WB AD SR FW TB md_Jx4a65c_elementData_915e3 5 (.aaload, 0, 0, 0, []) := io_plain (by decide +kernel) rfl
theorem r_Jx4a65c_elementData_915e3_6 : IOK WB AD SR FW TB md_Jx4a65c_elementData_915e3 6 (.areturn, 0, 0, 0, []) := io_aret (by decide +kernel) rfl
set_option maxRecDepth 100000 in
theorem ok_Jx4a65c_elementData_915e3_0 : ∀ q ∈ tl_Jx4a65c_elementData_915e3, IOK WB AD SR FW TB md_Jx4a65c_elementData_915e3 q.1 q.2 := List.forall_mem_cons.mpr ⟨r_Jx4a65c_elementData_915e3_0, List.forall_mem_cons.mpr ⟨r_Jx4a65c_elementData_915e3_1, List.forall_mem_cons.mpr ⟨r_Jx4a65c_elementData_915e3_4, List.forall_mem_cons.mpr ⟨r_Jx4a65c_elementData_915e3_5, List.forall_mem_cons.mpr ⟨r_Jx4a65c_elementData_915e3_6, fun _ h => absurd h List.not_mem_nil⟩⟩⟩⟩⟩
set_option maxRecDepth 100000 in
theorem tq_Jx4a65c_elementData_915e3_0 : tf_Jx4a65c_elementData_915e3 = tl_Jx4a65c_elementData_915e3.map (fun q => (q.1, stepOf NPf md_Jx4a65c_elementData_915e3 q.2)) := rfl
theorem ro_Jx4a65c_elementData_915e3 : RowsOK (md_Jx4a65c_elementData_915e3, tl_Jx4a65c_elementData_915e3) tf_Jx4a65c_elementData_915e3 := ⟨tq_Jx4a65c_elementData_915e3_0, ok_Jx4a65c_elementData_915e3_0⟩
theorem r_Jx4a65c_remove_915e3_0 : IOK WB AD SR FW TB md_Jx4a65c_remove_915e3 0 (.iload_n 1, 0, 0, 0, []) := io_plain (by decide +kernel) rfl
theorem r_Jx4a65c_remove_915e3_1 : IOK WB AD SR FW TB md_Jx4a65c_remove_915e3 1 (.aload_n 0, 0, 0, 0, []) := io_plain (by decide +kernel) rfl
theorem r_Jx4a65c_remove_915e3_2 : IOK WB AD SR FW TB md_Jx4a65c_remove_915e3 2 (.getfield 48, 0, 2, 0, []) := io_get (by decide +kernel) fo_RJx4a65c_48
theorem r_Jx4a65c_remove_915e3_5 : IOK WB AD SR FW TB md_Jx4a65c_remove_915e3 5 (.invokestatic 118, 54, 0, 0, []) := io_stat (by decide +kernel) tb_J15_checkIndex_7cf53 (Or.inl (wb_8 49 rfl rfl)) st_J15_checkIndex_7cf53 pr_J15_checkIndex_7cf53
theorem r_Jx4a65c_remove_915e3_8 : IOK WB AD SR FW TB md_Jx4a65c_remove_915e3 8 (.pop, 0, 0, 0, []) := io_plain (by decide +kernel) rfl
theorem r_Jx4a65c_remove_915e3_9 : IOK WB AD SR FW TB md_Jx4a65c_remove_915e3 9 (.aload_n 0, 0, 0, 0, []) := io_plain (by decide +kernel) rfl
theorem r_Jx4a65c_remove_915e3_10 : IOK WB AD SR FW TB md_Jx4a65c_remove_915e3 10 (.getfield 9, 0, 1, 2, []) := io_get (by decide +kernel) fo_RJx4a65c_9
theorem r_Jx4a65c_remove_915e3_13 : IOK WB AD SR FW TB md_Jx4a65c_remove_915e3 13 (.astore_n 2, 0, 0, 0, []) := io_plain (by decide +kernel) rfl
theorem r_Jx4a65c_remove_915e3_14 : IOK WB AD SR FW TB md_Jx4a65c_remove_915e3 14 (.aload_n 2, 0, 0, 0, []) := io_plain (by decide +kernel) rfl
theorem r_Jx4a65c_remove_915e3_15 : IOK WB AD SR FW TB md_Jx4a65c_remove_915e3 15 (.iload_n 1, 0, 0, 0, []) := io_plain (by decide +kernel) rfl
theorem r_Jx4a65c_remove_915e3_16 : IOK WB AD SR FW TB md_Jx4a65c_remove_915e3 16 (.aaload, 0, 0, 0, []) := io_plain (by decide +kernel) rfl
theorem r_Jx4a65c_remove_915e3_17 : IOK WB AD SR FW TB md_Jx4a65c_remove_915e3 17 (.astore_n 3, 0, 0, 0, []) := io_plain (by decide +kernel) rfl
theorem r_Jx4a65c_remove_915e3_18 : IOK WB AD SR FW TB md_Jx4a65c_remove_915e3 18 (.aload_n 0, 0, 0, 0, []) := io_plain (by decide +kernel) rfl
theorem r_Jx4a65c_remove_915e3_19 : IOK WB AD SR FW TB md_Jx4a65c_remove_915e3 19 (.aload_n 2, 0, 0, 0, []) := io_plain (by decide +kernel) rfl
theorem r_Jx4a65c_remove_915e3_20 : IOK WB AD SR FW TB md_Jx4a65c_remove_915e3 20 (.iload_n 1, 0, 0, 0, []) := io_plain (by decide +kernel) rfl
theorem r_Jx4a65c_remove_915e3_21 : IOK WB AD SR FW TB md_Jx4a65c_remove_915e3 21 (.invokevirtual 144, 55, 0, 0, []) := io_virt (by decide +kernel) tb_Jx4a65c_fastRemove_b59b0 (Or.inl (wb_8 55 rfl rfl)) in_Jx4a65c_fastRemove_b59b0 se_Jx4a65c_fastRemove_b59b0 ⟨_, rfl, rfl⟩ pr_Jx4a65c_fastRemove_b59b0 (by decide)
theorem r_Jx4a65c_remove_915e3_24 : IOK WB AD SR FW TB md_Jx4a65c_remove_915e3 24 (.aload_n 3, 0, 0, 0, []) := io_plain (by decide +kernel) rfl
theorem r_Jx4a65c_remove_915e3_25 : IOK WB AD SR FW TB md_Jx4a65c_remove_915e3 25 (.areturn, 0, 0, 0, []) := io_aret (by decide +kernel) rfl
set_option maxRecDepth 100000 in
theorem ok_Jx4a65c_remove_915e3_0 : ∀ q ∈ tl_Jx4a65c_remove_915e3, IOK WB AD SR FW TB md_Jx4a65c_remove_915e3 q.1 q.2 := List.forall_mem_cons.mpr ⟨r_Jx4a65c_remove_915e3_0, List.forall_mem_cons.mpr ⟨r_Jx4a65c_remove_915e3_1, List.forall_mem_cons.mpr ⟨r_Jx4a65c_remove_915e3_2, List.forall_mem_cons.mpr ⟨r_Jx4a65c_remove_915e3_5, List.forall_mem_cons.mpr ⟨r_Jx4a65c_remove_915e3_8, List.forall_mem_cons.mpr ⟨r_Jx4a65c_remove_915e3_9, List.forall_mem_cons.mpr ⟨r_Jx4a65c_remove_915e3_10, List.forall_mem_cons.mpr ⟨r_Jx4a65c_remove_915e3_13, List.forall_mem_cons.mpr ⟨r_Jx4a65c_remove_915e3_14, List.forall_mem_cons.mpr ⟨r_Jx4a65c_remove_915e3_15, List.forall_mem_cons.mpr ⟨r_Jx4a65c_remove_915e3_16, List.forall_mem_cons.mpr ⟨r_Jx4a65c_remove_915e3_17, List.forall_mem_cons.mpr ⟨r_Jx4a65c_remove_915e3_18, List.forall_mem_cons.mpr ⟨r_Jx4a65c_remove_915e3_19, List.forall_mem_cons.mpr ⟨r_Jx4a65c_remove_915e3_20, List.forall_mem_cons.mpr ⟨r_Jx4a65c_remove_915e3_21, List.forall_mem_cons.mpr ⟨r_Jx4a65c_remove_915e3_24, List.forall_mem_cons.mpr ⟨r_Jx4a65c_remove_915e3_25, fun _ h => absurd h List.not_mem_nil⟩⟩⟩⟩⟩⟩⟩⟩⟩⟩⟩⟩⟩⟩⟩⟩⟩⟩
set_option maxRecDepth 100000 in
theorem tq_Jx4a65c_remove_915e3_0 : tf_Jx4a65c_remove_915e3 = tl_Jx4a65c_remove_915e3.map (fun q => (q.1, stepOf NPf md_Jx4a65c_remove_915e3 q.2)) := rfl
theorem ro_Jx4a65c_remove_915e3 : RowsOK (md_Jx4a65c_remove_915e3, tl_Jx4a65c_remove_915e3) tf_Jx4a65c_remove_915e3 := ⟨tq_Jx4a65c_remove_915e3_0, ok_Jx4a65c_remove_915e3_0⟩
theorem r_X17_put_0 : IOK WB AD SR FW TB md_X17_put 0 (.aload_n 0, 0, 0, 0, []) := io_plain (by decide +kernel) rfl
theorem r_X17_put_1 : IOK WB AD SR FW TB md_X17_put 1 (.getfield 20, 18, 6, 2, []) := io_get (by decide +kernel) fo_RX17_20
theorem r_X17_put_4 : IOK WB AD SR FW TB md_X17_put 4 (.iload_n 1, 0, 0, 0, []) := io_plain (by decide +kernel) rfl
theorem r_X17_put_5 : IOK WB AD SR FW TB md_X17_put 5 (.iaload, 0, 0, 0, []) := io_plain (by decide +kernel) rfl
theorem r_X17_put_6 : IOK WB AD SR FW TB md_X17_put 6 (.iconst 1, 0, 0, 0, []) := io_plain (by decide +kernel) rfl
theorem r_X17_put_7 : IOK WB AD SR FW TB md_X17_put 7 (.if_icmp .ne 7, 0, 0, 0, []) := io_plain (by decide +kernel) rfl
theorem r_X17_put_14 : IOK WB AD SR FW TB md_X17_put 14 (.aload_n 0, 0, 0, 0, []) := io_plain (by decide +kernel) rfl
theorem r_X17_put_15 : IOK WB AD SR FW TB md_X17_put 15 (.getfield 20, 18, 6, 2, []) := io_get (by decide +kernel) fo_RX17_20
theorem r_X17_put_18 : IOK WB AD SR FW TB md_X17_put 18 (.iload_n 1, 0, 0, 0, []) := io_plain (by decide +kernel) rfl
theorem r_X17_put_19 : IOK WB AD SR FW TB md_X17_put 19 (.iaload, 0, 0, 0, []) := io_plain (by decide +kernel) rfl
theorem r_X17_put_20 : IOK WB AD SR FW TB md_X17_put 20 (.iconst 2, 0, 0, 0, []) := io_plain (by decide +kernel) rfl
theorem r_X17_put_21 : IOK WB AD SR FW TB md_X17_put 21 (.if_icmp .ge 11, 0, 0, 0, []) := io_plain (by decide +kernel) rfl
theorem r_X17_put_24 : IOK WB AD SR FW TB md_X17_put 24 (.iload_n 1, 0, 0, 0, []) := io_plain (by decide +kernel) rfl
theorem r_X17_put_25 : IOK WB AD SR FW TB md_X17_put 25 (.aload_n 2, 0, 0, 0, []) := io_plain (by decide +kernel) rfl
theorem r_X17_put_26 : IOK WB AD SR FW TB md_X17_put 26 (.invokestatic 145, 50, 18, 0, []) := io_stat (by decide +kernel) tb_X17_made (Or.inl (wb_8 106 rfl rfl)) st_X17_made pr_X17_made
theorem r_X17_put_29 : IOK WB AD SR FW TB md_X17_put 29 (.goto 9, 0, 0, 0, []) := io_plain (by decide +kernel) rfl
theorem r_X17_put_38 : IOK WB AD SR FW TB md_X17_put 38 (.areturn, 0, 0, 0, []) := io_aret (by decide +kernel) rfl
set_option maxRecDepth 100000 in
theorem ok_X17_put_0 : ∀ q ∈ tl_X17_put, IOK WB AD SR FW TB md_X17_put q.1 q.2 := List.forall_mem_cons.mpr ⟨r_X17_put_0, List.forall_mem_cons.mpr ⟨r_X17_put_1, List.forall_mem_cons.mpr ⟨r_X17_put_4, List.forall_mem_cons.mpr ⟨r_X17_put_5, List.forall_mem_cons.mpr ⟨r_X17_put_6, List.forall_mem_cons.mpr ⟨r_X17_put_7, List.forall_mem_cons.mpr ⟨r_X17_put_14, List.forall_mem_cons.mpr ⟨r_X17_put_15, List.forall_mem_cons.mpr ⟨r_X17_put_18, List.forall_mem_cons.mpr ⟨r_X17_put_19, List.forall_mem_cons.mpr ⟨r_X17_put_20, List.forall_mem_cons.mpr ⟨r_X17_put_21, List.forall_mem_cons.mpr ⟨r_X17_put_24, List.forall_mem_cons.mpr ⟨r_X17_put_25, List.forall_mem_cons.mpr ⟨r_X17_put_26, List.forall_mem_cons.mpr ⟨r_X17_put_29, List.forall_mem_cons.mpr ⟨r_X17_put_38, fun _ h => absurd h List.not_mem_nil⟩⟩⟩⟩⟩⟩⟩⟩⟩⟩⟩⟩⟩⟩⟩⟩⟩
set_option maxRecDepth 100000 in
theorem tq_X17_put_0 : tf_X17_put = tl_X17_put.map (fun q => (q.1, stepOf NPf md_X17_put q.2)) := rfl
theorem ro_X17_put : RowsOK (md_X17_put, tl_X17_put) tf_X17_put := ⟨tq_X17_put_0, ok_X17_put_0⟩
theorem r_X16_init_0 : IOK WB AD SR FW TB md_X16_init 0 (.aload_n 0, 0, 0, 0, []) := io_plain (by decide +kernel) rfl
theorem r_X16_init_1 : IOK WB AD SR FW TB md_X16_init 1 (.invokespecial 3, 1000, 0, 0, []) := io_obj (by decide +kernel) (wb_7 78 rfl rfl) ob_1 ob_2
theorem r_X16_init_4 : IOK WB AD SR FW TB md_X16_init 4 (.aload_n 0, 0, 0, 0, []) := io_plain (by decide +kernel) rfl
theorem r_X16_init_5 : IOK WB AD SR FW TB md_X16_init 5 (.iconst (-1), 0, 0, 0, []) := io_plain (by decide +kernel) rfl
theorem r_X16_init_6 : IOK WB AD SR FW TB md_X16_init 6 (.putfield 9, 17, 4, 0, []) := io_put (by decide +kernel) fo_RX16_9 po_RX16_1_17_4_0
theorem r_X16_init_9 : IOK WB AD SR FW TB md_X16_init 9 (.aload_n 0, 0, 0, 0, []) := io_plain (by decide +kernel) rfl
theorem r_X16_init_10 : IOK WB AD SR FW TB md_X16_init 10 (.iload_n 1, 0, 0, 0, []) := io_plain (by decide +kernel) rfl
theorem r_X16_init_11 : IOK WB AD SR FW TB md_X16_init 11 (.putfield 15, 17, 0, 0, []) := io_put (by decide +kernel) fo_RX16_15 po_RX16_1_17_0_0
theorem r_X16_init_14 : IOK WB AD SR FW TB md_X16_init 14 (.aload_n 0, 0, 0, 0, []) := io_plain (by decide +kernel) rfl
theorem r_X16_init_15 : IOK WB AD SR FW TB md_X16_init 15 (.iconst (-1), 0, 0, 0, []) := io_plain (by decide +kernel) rfl
theorem r_X16_init_16 : IOK WB AD SR FW TB md_X16_init 16 (.putfield 18, 17, 1, 0, []) := io_put (by decide +kernel) fo_RX16_18 po_RX16_1_17_1_0
theorem r_X16_init_19 : IOK WB AD SR FW TB md_X16_init 19 (.aload_n 0, 0, 0, 0, []) := io_plain (by decide +kernel) rfl
theorem r_X16_init_20 : IOK WB AD SR FW TB md_X16_init 20 (.aload_n 2, 0, 0, 0, []) := io_plain (by decide +kernel) rfl
theorem r_X16_init_21 : IOK WB AD SR FW TB md_X16_init 21 (.putfield 21, 17, 2, 2, []) := io_put (by decide +kernel) fo_RX16_21 po_RX16_1_17_2_2
theorem r_X16_init_24 : IOK WB AD SR FW TB md_X16_init 24 (.aload_n 0, 0, 0, 0, []) := io_plain (by decide +kernel) rfl
theorem r_X16_init_25 : IOK WB AD SR FW TB md_X16_init 25 (.iconst 1, 0, 0, 0, []) := io_plain (by decide +kernel) rfl
theorem r_X16_init_26 : IOK WB AD SR FW TB md_X16_init 26 (.putfield 25, 17, 3, 0, []) := io_put (by decide +kernel) fo_RX16_25 po_RX16_1_17_3_0
theorem r_X16_init_29 : IOK WB AD SR FW TB md_X16_init 29 (.return_, 0, 0, 0, []) := io_void (by decide +kernel) rfl
set_option maxRecDepth 100000 in
theorem ok_X16_init_0 : ∀ q ∈ tl_X16_init, IOK WB AD SR FW TB md_X16_init q.1 q.2 := List.forall_mem_cons.mpr ⟨r_X16_init_0, List.forall_mem_cons.mpr ⟨r_X16_init_1, List.forall_mem_cons.mpr ⟨r_X16_init_4, List.forall_mem_cons.mpr ⟨r_X16_init_5, List.forall_mem_cons.mpr ⟨r_X16_init_6, List.forall_mem_cons.mpr ⟨r_X16_init_9, List.forall_mem_cons.mpr ⟨r_X16_init_10, List.forall_mem_cons.mpr ⟨r_X16_init_11, List.forall_mem_cons.mpr ⟨r_X16_init_14, List.forall_mem_cons.mpr ⟨r_X16_init_15, List.forall_mem_cons.mpr ⟨r_X16_init_16, List.forall_mem_cons.mpr ⟨r_X16_init_19, List.forall_mem_cons.mpr ⟨r_X16_init_20, List.forall_mem_cons.mpr ⟨r_X16_init_21, List.forall_mem_cons.mpr ⟨r_X16_init_24, List.forall_mem_cons.mpr ⟨r_X16_init_25, List.forall_mem_cons.mpr ⟨r_X16_init_26, List.forall_mem_cons.mpr ⟨r_X16_init_29, fun _ h => absurd h List.not_mem_nil⟩⟩⟩⟩⟩⟩⟩⟩⟩⟩⟩⟩⟩⟩⟩⟩⟩⟩
set_option maxRecDepth 100000 in
theorem tq_X16_init_0 : tf_X16_init = tl_X16_init.map (fun q => (q.1, stepOf NPf md_X16_init q.2)) := rfl
theorem ro_X16_init : RowsOK (md_X16_init, tl_X16_init) tf_X16_init := ⟨tq_X16_init_0, ok_X16_init_0⟩
theorem r_X10_push_0 : IOK WB AD SR FW TB md_X10_push 0 (.aload_n 0, 0, 0, 0, []) := io_plain (by decide +kernel) rfl
theorem r_X10_push_1 : IOK WB AD SR FW TB md_X10_push 1 (.getfield 21, 11, 1, 2, []) := io_get (by decide +kernel) fo_RX10_21
theorem r_X10_push_4 : IOK WB AD SR FW TB md_X10_push 4 (.iload_n 1, 0, 0, 0, []) := io_plain (by decide +kernel) rfl
theorem r_X10_push_5 : IOK WB AD SR FW TB md_X10_push 5 (.aload_n 0, 0, 0, 0, []) := io_plain (by decide +kernel) rfl
theorem r_X10_push_6 : IOK WB AD SR FW TB md_X10_push 6 (.getfield 160, 11, 8, 0, []) := io_get (by decide +kernel) fo_RX10_160
theorem r_X10_push_9 : IOK WB AD SR FW TB md_X10_push 9 (.invokestatic 176, 68, 11, 0, []) := io_stat (by decide +kernel) tb_X10_stackAt (Or.inl (wb_5 129 rfl rfl)) st_X10_stackAt pr_X10_stackAt
theorem r_X10_push_12 : IOK WB AD SR FW TB md_X10_push 12 (.invokevirtual 193, 66, 9, 0, []) := io_virt (by decide +kernel) tb_X8_store (Or.inl (wb_5 132 rfl rfl)) in_X8_store se_X8_store ⟨_, rfl, rfl⟩ pr_X8_store (by decide)
theorem r_X10_push_15 : IOK WB AD SR FW TB md_X10_push 15 (.aload_n 0, 0, 0, 0, []) := io_plain (by decide +kernel) rfl
theorem r_X10_push_16 : IOK WB AD SR FW TB md_X10_push 16 (.dup, 0, 0, 0, []) := io_plain (by decide +kernel) rfl
theorem r_X10_push_17 : IOK WB AD SR FW TB md_X10_push 17 (.getfield 160, 11, 8, 0, []) := io_get (by decide +kernel) fo_RX10_160
theorem r_X10_push_20 : IOK WB AD SR FW TB md_X10_push 20 (.iconst 1, 0, 0, 0, []) := io_plain (by decide +kernel) rfl
theorem r_X10_push_21 : IOK WB AD SR FW TB md_X10_push 21 (.iadd, 0, 0, 0, []) := io_plain (by decide +kernel) rfl
theorem r_X10_push_22 : IOK WB AD SR FW TB md_X10_push 22 (.putfield 160, 11, 8, 0, []) := io_put (by decide +kernel) fo_RX10_160 po_RX10_0_11_8_0
theorem r_X10_push_25 : IOK WB AD SR FW TB md_X10_push 25 (.aload_n 0, 0, 0, 0, []) := io_plain (by decide +kernel) rfl
theorem r_X10_push_26 : IOK WB AD SR FW TB md_X10_push 26 (.getfield 160, 11, 8, 0, []) := io_get (by decide +kernel) fo_RX10_160
theorem r_X10_push_29 : IOK WB AD SR FW TB md_X10_push 29 (.ireturn, 0, 0, 0, []) := io_plain (by decide +kernel) rfl
set_option maxRecDepth 100000 in
theorem ok_X10_push_0 : ∀ q ∈ tl_X10_push, IOK WB AD SR FW TB md_X10_push q.1 q.2 := List.forall_mem_cons.mpr ⟨r_X10_push_0, List.forall_mem_cons.mpr ⟨r_X10_push_1, List.forall_mem_cons.mpr ⟨r_X10_push_4, List.forall_mem_cons.mpr ⟨r_X10_push_5, List.forall_mem_cons.mpr ⟨r_X10_push_6, List.forall_mem_cons.mpr ⟨r_X10_push_9, List.forall_mem_cons.mpr ⟨r_X10_push_12, List.forall_mem_cons.mpr ⟨r_X10_push_15, List.forall_mem_cons.mpr ⟨r_X10_push_16, List.forall_mem_cons.mpr ⟨r_X10_push_17, List.forall_mem_cons.mpr ⟨r_X10_push_20, List.forall_mem_cons.mpr ⟨r_X10_push_21, List.forall_mem_cons.mpr ⟨r_X10_push_22, List.forall_mem_cons.mpr ⟨r_X10_push_25, List.forall_mem_cons.mpr ⟨r_X10_push_26, List.forall_mem_cons.mpr ⟨r_X10_push_29, fun _ h => absurd h List.not_mem_nil⟩⟩⟩⟩⟩⟩⟩⟩⟩⟩⟩⟩⟩⟩⟩⟩
set_option maxRecDepth 100000 in
theorem tq_X10_push_0 : tf_X10_push = tl_X10_push.map (fun q => (q.1, stepOf NPf md_X10_push q.2)) := rfl
theorem ro_X10_push : RowsOK (md_X10_push, tl_X10_push) tf_X10_push := ⟨tq_X10_push_0, ok_X10_push_0⟩
theorem r_X8_startAnew_0 : IOK WB AD SR FW TB md_X8_startAnew 0 (.aload_n 0, 0, 0, 0, []) := io_plain (by decide +kernel) rfl
theorem r_X8_startAnew_1 : IOK WB AD SR FW TB md_X8_startAnew 1 (.sipush 7500, 0, 0, 0, []) := io_plain (by decide +kernel) rfl
theorem r_X8_startAnew_4 : IOK WB AD SR FW TB md_X8_startAnew 4 (.putfield 15, 9, 2, 0, []) := io_put (by decide +kernel) fo_RX8_15 po_RX8_0_9_2_0
theorem r_X8_startAnew_7 : IOK WB AD SR FW TB md_X8_startAnew 7 (.aload_n 0, 0, 0, 0, []) := io_plain (by decide +kernel) rfl
theorem r_X8_startAnew_8 : IOK WB AD SR FW TB md_X8_startAnew 8 (.iconst 0, 0, 0, 0, []) := io_plain (by decide +kernel) rfl
theorem r_X8_startAnew_9 : IOK WB AD SR FW TB md_X8_startAnew 9 (.putfield 41, 9, 4, 0, []) := io_put (by decide +kernel) fo_RX8_41 po_RX8_0_9_4_0
theorem r_X8_startAnew_12 : IOK WB AD SR FW TB md_X8_startAnew 12 (.aload_n 0, 0, 0, 0, []) := io_plain (by decide +kernel) rfl
theorem r_X8_startAnew_13 : IOK WB AD SR FW TB md_X8_startAnew 13 (.iconst (-1), 0, 0, 0, []) := io_plain (by decide +kernel) rfl
theorem r_X8_startAnew_14 : IOK WB AD SR FW TB md_X8_startAnew 14 (.putfield 31, 9, 8, 0, []) := io_put (by decide +kernel) fo_RX8_31 po_RX8_0_9_8_0
theorem r_X8_startAnew_17 : IOK WB AD SR FW TB md_X8_startAnew 17 (.aload_n 0, 0, 0, 0, []) := io_plain (by decide +kernel) rfl
theorem r_X8_startAnew_18 : IOK WB AD SR FW TB md_X8_startAnew 18 (.iconst 0, 0, 0, 0, []) := io_plain (by decide +kernel) rfl
theorem r_X8_startAnew_19 : IOK WB AD SR FW TB md_X8_startAnew 19 (.putfield 44, 9, 10, 1, []) := io_put (by decide +kernel) fo_RX8_44 po_RX8_0_9_10_1
theorem r_X8_startAnew_22 : IOK WB AD SR FW TB md_X8_startAnew 22 (.aload_n 0, 0, 0, 0, []) := io_plain (by decide +kernel) rfl
theorem r_X8_startAnew_23 : IOK WB AD SR FW TB md_X8_startAnew 23 (.invokevirtual 48, 56, 9, 0, []) := io_virt (by decide +kernel) tb_X8_giveNothing (Or.inl (wb_3 132 rfl rfl)) in_X8_giveNothing se_X8_giveNothing ⟨_, rfl, rfl⟩ pr_X8_giveNothing (by decide)
theorem r_X8_startAnew_26 : IOK WB AD SR FW TB md_X8_startAnew 26 (.return_, 0, 0, 0, []) := io_void (by decide +kernel) rfl
set_option maxRecDepth 100000 in
theorem ok_X8_startAnew_0 : ∀ q ∈ tl_X8_startAnew, IOK WB AD SR FW TB md_X8_startAnew q.1 q.2 := List.forall_mem_cons.mpr ⟨r_X8_startAnew_0, List.forall_mem_cons.mpr ⟨r_X8_startAnew_1, List.forall_mem_cons.mpr ⟨r_X8_startAnew_4, List.forall_mem_cons.mpr ⟨r_X8_startAnew_7, List.forall_mem_cons.mpr ⟨r_X8_startAnew_8, List.forall_mem_cons.mpr ⟨r_X8_startAnew_9, List.forall_mem_cons.mpr ⟨r_X8_startAnew_12, List.forall_mem_cons.mpr ⟨r_X8_startAnew_13, List.forall_mem_cons.mpr ⟨r_X8_startAnew_14, List.forall_mem_cons.mpr ⟨r_X8_startAnew_17, List.forall_mem_cons.mpr ⟨r_X8_startAnew_18, List.forall_mem_cons.mpr ⟨r_X8_startAnew_19, List.forall_mem_cons.mpr ⟨r_X8_startAnew_22, List.forall_mem_cons.mpr ⟨r_X8_startAnew_23, List.forall_mem_cons.mpr ⟨r_X8_startAnew_26, fun _ h => absurd h List.not_mem_nil⟩⟩⟩⟩⟩⟩⟩⟩⟩⟩⟩⟩⟩⟩⟩
set_option maxRecDepth 100000 in
theorem tq_X8_startAnew_0 : tf_X8_startAnew = tl_X8_startAnew.map (fun q => (q.1, stepOf NPf md_X8_startAnew q.2)) := rfl
theorem ro_X8_startAnew : RowsOK (md_X8_startAnew, tl_X8_startAnew) tf_X8_startAnew := ⟨tq_X8_startAnew_0, ok_X8_startAnew_0⟩
theorem r_Jx4a65c_add_9ea2d_0 : IOK WB AD SR FW TB md_Jx4a65c_add_9ea2d 0 (.aload_n 0, 0, 0, 0, []) := io_plain (by decide +kernel) rfl
theorem r_Jx4a65c_add_9ea2d_1 : IOK WB AD SR FW TB md_Jx4a65c_add_9ea2d 1 (.dup, 0, 0, 0, []) := io_plain (by decide +kernel) rfl
theorem r_Jx4a65c_add_9ea2d_2 : IOK WB AD SR FW TB md_Jx4a65c_add_9ea2d 2 (.getfield 63, 0, 0, 0, []) := io_get (by decide +kernel) fo_RJx4a65c_63
theorem r_Jx4a65c_add_9ea2d_5 : IOK WB AD SR FW TB md_Jx4a65c_add_9ea2d 5 (.iconst 1, 0, 0, 0, []) := io_plain (by decide +kernel) rfl
theorem r_Jx4a65c_add_9ea2d_6 : IOK WB AD SR FW TB md_Jx4a65c_add_9ea2d 6 (.iadd, 0, 0, 0, []) := io_plain (by decide +kernel) rfl
theorem r_Jx4a65c_add_9ea2d_7 : IOK WB AD SR FW TB md_Jx4a65c_add_9ea2d 7 (.putfield 63, 0, 0, 0, []) := io_put (by decide +kernel) fo_RJx4a65c_63 po_RJx4a65c_0_0_0_0
theorem r_Jx4a65c_add_9ea2d_10 : IOK WB AD SR FW TB md_Jx4a65c_add_9ea2d 10 (.aload_n 0, 0, 0, 0, []) := io_plain (by decide +kernel) rfl
theorem r_Jx4a65c_add_9ea2d_11 : IOK WB AD SR FW TB md_Jx4a65c_add_9ea2d 11 (.aload_n 1, 0, 0, 0, []) := io_plain (by decide +kernel) rfl
theorem r_Jx4a65c_add_9ea2d_12 : IOK WB AD SR FW TB md_Jx4a65c_add_9ea2d 12 (.aload_n 0, 0, 0, 0, []) := io_plain (by decide +kernel) rfl
theorem r_Jx4a65c_add_9ea2d_13 : IOK WB AD SR FW TB md_Jx4a65c_add_9ea2d 13 (.getfield 9, 0, 1, 2, []) := io_get (by decide +kernel) fo_RJx4a65c_9
theorem r_Jx4a65c_add_9ea2d_16 : IOK WB AD SR FW TB md_Jx4a65c_add_9ea2d 16 (.aload_n 0, 0, 0, 0, []) := io_plain (by decide +kernel) rfl
theorem r_Jx4a65c_add_9ea2d_17 : IOK WB AD SR FW TB md_Jx4a65c_add_9ea2d 17 (.getfield 48, 0, 2, 0, []) := io_get (by decide +kernel) fo_RJx4a65c_48
theorem r_Jx4a65c_add_9ea2d_20 : IOK WB AD SR FW TB md_Jx4a65c_add_9ea2d 20 (.invokevirtual 131, 65, 0, 0, []) := io_virt (by decide +kernel) tb_Jx4a65c_add_72be8 (Or.inl (wb_9 18 rfl rfl)) in_Jx4a65c_add_72be8 se_Jx4a65c_add_72be8 ⟨_, rfl, rfl⟩ pr_Jx4a65c_add_72be8 (by decide)
theorem r_Jx4a65c_add_9ea2d_23 : IOK WB AD SR FW TB md_Jx4a65c_add_9ea2d 23 (.iconst 1, 0, 0, 0, []) := io_plain (by decide +kernel) rfl
theorem r_Jx4a65c_add_9ea2d_24 : IOK WB AD SR FW TB md_Jx4a65c_add_9ea2d 24 (.ireturn, 0, 0, 0, []) := io_plain (by decide +kernel) rfl
set_option maxRecDepth 100000 in
theorem ok_Jx4a65c_add_9ea2d_0 : ∀ q ∈ tl_Jx4a65c_add_9ea2d, IOK WB AD SR FW TB md_Jx4a65c_add_9ea2d q.1 q.2 := List.forall_mem_cons.mpr ⟨r_Jx4a65c_add_9ea2d_0, List.forall_mem_cons.mpr ⟨r_Jx4a65c_add_9ea2d_1, List.forall_mem_cons.mpr ⟨r_Jx4a65c_add_9ea2d_2, List.forall_mem_cons.mpr ⟨r_Jx4a65c_add_9ea2d_5, List.forall_mem_cons.mpr ⟨r_Jx4a65c_add_9ea2d_6, List.forall_mem_cons.mpr ⟨r_Jx4a65c_add_9ea2d_7, List.forall_mem_cons.mpr ⟨r_Jx4a65c_add_9ea2d_10, List.forall_mem_cons.mpr ⟨r_Jx4a65c_add_9ea2d_11, List.forall_mem_cons.mpr ⟨r_Jx4a65c_add_9ea2d_12, List.forall_mem_cons.mpr ⟨r_Jx4a65c_add_9ea2d_13, List.forall_mem_cons.mpr ⟨r_Jx4a65c_add_9ea2d_16, List.forall_mem_cons.mpr ⟨r_Jx4a65c_add_9ea2d_17, List.forall_mem_cons.mpr ⟨r_Jx4a65c_add_9ea2d_20, List.forall_mem_cons.mpr ⟨r_Jx4a65c_add_9ea2d_23, List.forall_mem_cons.mpr ⟨r_Jx4a65c_add_9ea2d_24, fun _ h => absurd h List.not_mem_nil⟩⟩⟩⟩⟩⟩⟩⟩⟩⟩⟩⟩⟩⟩⟩
set_option maxRecDepth 100000 in
theorem tq_Jx4a65c_add_9ea2d_0 : tf_Jx4a65c_add_9ea2d = tl_Jx4a65c_add_9ea2d.map (fun q => (q.1, stepOf NPf md_Jx4a65c_add_9ea2d q.2)) := rfl
theorem ro_Jx4a65c_add_9ea2d : RowsOK (md_Jx4a65c_add_9ea2d, tl_Jx4a65c_add_9ea2d) tf_Jx4a65c_add_9ea2d := ⟨tq_Jx4a65c_add_9ea2d_0, ok_Jx4a65c_add_9ea2d_0⟩
theorem r_Jx4a65c_add_72be8_0 : IOK WB AD SR FW TB md_Jx4a65c_add_72be8 0 (.iload_n 3, 0, 0, 0, []) := io_plain (by decide +kernel) rfl
theorem r_Jx4a65c_add_72be8_1 : IOK WB AD SR FW TB md_Jx4a65c_add_72be8 1 (.aload_n 2, 0, 0, 0, []) := io_plain (by decide +kernel) rfl
theorem r_Jx4a65c_add_72be8_2 : IOK WB AD SR FW TB md_Jx4a65c_add_72be8 2 (.arraylength, 0, 0, 0, []) := io_plain (by decide +kernel) rfl
theorem r_Jx4a65c_add_72be8_3 : IOK WB AD SR FW TB md_Jx4a65c_add_72be8 3 (.if_icmp .ne 8, 0, 0, 0, []) := io_plain (by decide +kernel) rfl
theorem r_Jx4a65c_add_72be8_6 : IOK WB AD SR FW TB md_Jx4a65c_add_72be8 6 (.aload_n 0, 0, 0, 0, []) := io_plain (by decide +kernel) rfl
theorem r_Jx4a65c_add_72be8_7 : IOK WB AD SR FW TB md_Jx4a65c_add_72be8 7 (.invokevirtual 129, 100, 0, 0, []) := io_virt (by decide +kernel) tb_Jx4a65c_grow_d5877 (Or.inl (wb_9 22 rfl rfl)) in_Jx4a65c_grow_d5877 se_Jx4a65c_grow_d5877 ⟨_, rfl, rfl⟩ pr_Jx4a65c_grow_d5877 (by decide)
theorem r_Jx4a65c_add_72be8_10 : IOK WB AD SR FW TB md_Jx4a65c_add_72be8 10 (.astore_n 2, 0, 0, 0, []) := io_plain (by decide +kernel) rfl
theorem r_Jx4a65c_add_72be8_11 : IOK WB AD SR FW TB md_Jx4a65c_add_72be8 11 (.aload_n 2, 0, 0, 0, []) := io_plain (by decide +kernel) rfl
theorem r_Jx4a65c_add_72be8_12 : IOK WB AD SR FW TB md_Jx4a65c_add_72be8 12 (.iload_n 3, 0, 0, 0, []) := io_plain (by decide +kernel) rfl
theorem r_Jx4a65c_add_72be8_13 : IOK WB AD SR FW TB md_Jx4a65c_add_72be8 13 (.aload_n 1, 0, 0, 0, []) := io_plain (by decide +kernel) rfl
theorem r_Jx4a65c_add_72be8_14 : IOK WB AD SR FW TB md_Jx4a65c_add_72be8 14 (.aastore, 0, 0, 0, []) := io_plain (by decide +kernel) rfl
theorem r_Jx4a65c_add_72be8_15 : IOK WB AD SR FW TB md_Jx4a65c_add_72be8 15 (.aload_n 0, 0, 0, 0, []) := io_plain (by decide +kernel) rfl
theorem r_Jx4a65c_add_72be8_16 : IOK WB AD SR FW TB md_Jx4a65c_add_72be8 16 (.iload_n 3, 0, 0, 0, []) := io_plain (by decide +kernel) rfl
theorem r_Jx4a65c_add_72be8_17 : IOK WB AD SR FW TB md_Jx4a65c_add_72be8 17 (.iconst 1, 0, 0, 0, []) := io_plain (by decide +kernel) rfl
theorem r_Jx4a65c_add_72be8_18 : IOK WB AD SR FW TB md_Jx4a65c_add_72be8 18 (.iadd, 0, 0, 0, []) := io_plain (by decide +kernel) rfl
theorem r_Jx4a65c_add_72be8_19 : IOK WB AD SR FW TB md_Jx4a65c_add_72be8 19 (.putfield 48, 0, 2, 0, []) := io_put (by decide +kernel) fo_RJx4a65c_48 po_RJx4a65c_0_0_2_0
theorem r_Jx4a65c_add_72be8_22 : IOK WB AD SR FW TB md_Jx4a65c_add_72be8 22 (.return_, 0, 0, 0, []) := io_void (by decide +kernel) rfl
set_option maxRecDepth 100000 in
theorem ok_Jx4a65c_add_72be8_0 : ∀ q ∈ tl_Jx4a65c_add_72be8, IOK WB AD SR FW TB md_Jx4a65c_add_72be8 q.1 q.2 := List.forall_mem_cons.mpr ⟨r_Jx4a65c_add_72be8_0, List.forall_mem_cons.mpr ⟨r_Jx4a65c_add_72be8_1, List.forall_mem_cons.mpr ⟨r_Jx4a65c_add_72be8_2, List.forall_mem_cons.mpr ⟨r_Jx4a65c_add_72be8_3, List.forall_mem_cons.mpr ⟨r_Jx4a65c_add_72be8_6, List.forall_mem_cons.mpr ⟨r_Jx4a65c_add_72be8_7, List.forall_mem_cons.mpr ⟨r_Jx4a65c_add_72be8_10, List.forall_mem_cons.mpr ⟨r_Jx4a65c_add_72be8_11, List.forall_mem_cons.mpr ⟨r_Jx4a65c_add_72be8_12, List.forall_mem_cons.mpr ⟨r_Jx4a65c_add_72be8_13, List.forall_mem_cons.mpr ⟨r_Jx4a65c_add_72be8_14, List.forall_mem_cons.mpr ⟨r_Jx4a65c_add_72be8_15, List.forall_mem_cons.mpr ⟨r_Jx4a65c_add_72be8_16, List.forall_mem_cons.mpr ⟨r_Jx4a65c_add_72be8_17, List.forall_mem_cons.mpr ⟨r_Jx4a65c_add_72be8_18, List.forall_mem_cons.mpr ⟨r_Jx4a65c_add_72be8_19, List.forall_mem_cons.mpr ⟨r_Jx4a65c_add_72be8_22, fun _ h => absurd h List.not_mem_nil⟩⟩⟩⟩⟩⟩⟩⟩⟩⟩⟩⟩⟩⟩⟩⟩⟩
set_option maxRecDepth 100000 in
theorem tq_Jx4a65c_add_72be8_0 : tf_Jx4a65c_add_72be8 = tl_Jx4a65c_add_72be8.map (fun q => (q.1, stepOf NPf md_Jx4a65c_add_72be8 q.2)) := rfl
theorem ro_Jx4a65c_add_72be8 : RowsOK (md_Jx4a65c_add_72be8, tl_Jx4a65c_add_72be8) tf_Jx4a65c_add_72be8 := ⟨tq_Jx4a65c_add_72be8_0, ok_Jx4a65c_add_72be8_0⟩
theorem r_X8_store_0 : IOK WB AD SR FW TB md_X8_store 0 (.aload_n 0, 0, 0, 0, []) := io_plain (by decide +kernel) rfl
theorem r_X8_store_1 : IOK WB AD SR FW TB md_X8_store 1 (.getfield 9, 9, 1, 2, []) := io_get (by decide +kernel) fo_RX8_9
theorem r_X8_store_4 : IOK WB AD SR FW TB md_X8_store 4 (.iload_n 1, 0, 0, 0, []) := io_plain (by decide +kernel) rfl
theorem r_X8_store_5 : IOK WB AD SR FW TB md_X8_store 5 (.aload_n 0, 0, 0, 0, []) := io_plain (by decide +kernel) rfl
theorem r_X8_store_6 : IOK WB AD SR FW TB md_X8_store 6 (.getfield 9, 9, 1, 2, []) := io_get (by decide +kernel) fo_RX8_9
theorem r_X8_store_9 : IOK WB AD SR FW TB md_X8_store 9 (.iload_n 2, 0, 0, 0, []) := io_plain (by decide +kernel) rfl
theorem r_X8_store_10 : IOK WB AD SR FW TB md_X8_store 10 (.aload_n 0, 0, 0, 0, []) := io_plain (by decide +kernel) rfl
theorem r_X8_store_11 : IOK WB AD SR FW TB md_X8_store 11 (.iload_n 1, 0, 0, 0, []) := io_plain (by decide +kernel) rfl
theorem r_X8_store_12 : IOK WB AD SR FW TB md_X8_store 12 (.invokevirtual 57, 1, 9, 0, []) := io_virt (by decide +kernel) tb_X8_end (Or.inl (wb_3 170 rfl rfl)) in_X8_end se_X8_end ⟨_, rfl, rfl⟩ pr_X8_end (by decide)
theorem r_X8_store_15 : IOK WB AD SR FW TB md_X8_store 15 (.iload_n 1, 0, 0, 0, []) := io_plain (by decide +kernel) rfl
theorem r_X8_store_16 : IOK WB AD SR FW TB md_X8_store 16 (.isub, 0, 0, 0, []) := io_plain (by decide +kernel) rfl
theorem r_X8_store_17 : IOK WB AD SR FW TB md_X8_store 17 (.invokestatic 61, 1000, 0, 0, []) := io_copy (by decide +kernel) (wb_3 184 rfl rfl) cp_1 cp_2 cp_3
theorem r_X8_store_20 : IOK WB AD SR FW TB md_X8_store 20 (.return_, 0, 0, 0, []) := io_void (by decide +kernel) rfl
set_option maxRecDepth 100000 in
theorem ok_X8_store_0 : ∀ q ∈ tl_X8_store, IOK WB AD SR FW TB md_X8_store q.1 q.2 := List.forall_mem_cons.mpr ⟨r_X8_store_0, List.forall_mem_cons.mpr ⟨r_X8_store_1, List.forall_mem_cons.mpr ⟨r_X8_store_4, List.forall_mem_cons.mpr ⟨r_X8_store_5, List.forall_mem_cons.mpr ⟨r_X8_store_6, List.forall_mem_cons.mpr ⟨r_X8_store_9, List.forall_mem_cons.mpr ⟨r_X8_store_10, List.forall_mem_cons.mpr ⟨r_X8_store_11, List.forall_mem_cons.mpr ⟨r_X8_store_12, List.forall_mem_cons.mpr ⟨r_X8_store_15, List.forall_mem_cons.mpr ⟨r_X8_store_16, List.forall_mem_cons.mpr ⟨r_X8_store_17, List.forall_mem_cons.mpr ⟨r_X8_store_20, fun _ h => absurd h List.not_mem_nil⟩⟩⟩⟩⟩⟩⟩⟩⟩⟩⟩⟩⟩
set_option maxRecDepth 100000 in
theorem tq_X8_store_0 : tf_X8_store = tl_X8_store.map (fun q => (q.1, stepOf NPf md_X8_store q.2)) := rfl
theorem ro_X8_store : RowsOK (md_X8_store, tl_X8_store) tf_X8_store := ⟨tq_X8_store_0, ok_X8_store_0⟩
theorem r_X17_operator_0 : IOK WB AD SR FW TB md_X17_operator 0 (.iload_n 3, 0, 0, 0, []) := io_plain (by decide +kernel) rfl
theorem r_X17_operator_1 : IOK WB AD SR FW TB md_X17_operator 1 (.iconst (-1), 0, 0, 0, []) := io_plain (by decide +kernel) rfl
theorem r_X17_operator_2 : IOK WB AD SR FW TB md_X17_operator 2 (.if_icmp .eq 17, 0, 0, 0, []) := io_plain (by decide +kernel) rfl
theorem r_X17_operator_19 : IOK WB AD SR FW TB md_X17_operator 19 (.iconst 1, 0, 0, 0, []) := io_plain (by decide +kernel) rfl
theorem r_X17_operator_20 : IOK WB AD SR FW TB md_X17_operator 20 (.goto 4, 0, 0, 0, []) := io_plain (by decide +kernel) rfl
theorem r_X17_operator_24 : IOK WB AD SR FW TB md_X17_operator 24 (.istore 4, 0, 0, 0, []) := io_plain (by decide +kernel) rfl
theorem r_X17_operator_26 : IOK WB AD SR FW TB md_X17_operator 26 (.iload_n 1, 0, 0, 0, []) := io_plain (by decide +kernel) rfl
theorem r_X17_operator_27 : IOK WB AD SR FW TB md_X17_operator 27 (.iconst 0, 0, 0, 0, []) := io_plain (by decide +kernel) rfl
theorem r_X17_operator_28 : IOK WB AD SR FW TB md_X17_operator 28 (.iconst 3, 0, 0, 0, []) := io_plain (by decide +kernel) rfl
theorem r_X17_operator_29 : IOK WB AD SR FW TB md_X17_operator 29 (.invokestatic 370, 72, 18, 0, []) := io_stat (by decide +kernel) tb_X17_isIn (Or.inl (wb_9 104 rfl rfl)) st_X17_isIn pr_X17_isIn
theorem r_X17_operator_32 : IOK WB AD SR FW TB md_X17_operator 32 (.ifCond .eq 25, 0, 0, 0, []) := io_plain (by decide +kernel) rfl
theorem r_X17_operator_35 : IOK WB AD SR FW TB md_X17_operator 35 (.iload_n 2, 0, 0, 0, []) := io_plain (by decide +kernel) rfl
theorem r_X17_operator_36 : IOK WB AD SR FW TB md_X17_operator 36 (.iconst 0, 0, 0, 0, []) := io_plain (by decide +kernel) rfl
theorem r_X17_operator_37 : IOK WB AD SR FW TB md_X17_operator 37 (.iconst 3, 0, 0, 0, []) := io_plain (by decide +kernel) rfl
theorem r_X17_operator_38 : IOK WB AD SR FW TB md_X17_operator 38 (.invokestatic 370, 72, 18, 0, []) := io_stat (by decide +kernel) tb_X17_isIn (Or.inl (wb_9 104 rfl rfl)) st_X17_isIn pr_X17_isIn
theorem r_X17_operator_41 : IOK WB AD SR FW TB md_X17_operator 41 (.ifCond .eq 16, 0, 0, 0, []) := io_plain (by decide +kernel) rfl
theorem r_X17_operator_44 : IOK WB AD SR FW TB md_X17_operator 44 (.iload_n 2, 0, 0, 0, []) := io_plain (by decide +kernel) rfl
theorem r_X17_operator_45 : IOK WB AD SR FW TB md_X17_operator 45 (.ifCond .eq 8, 0, 0, 0, []) := io_plain (by decide +kernel) rfl
theorem r_X17_operator_53 : IOK WB AD SR FW TB md_X17_operator 53 (.iconst 1, 0, 0, 0, []) := io_plain (by decide +kernel) rfl
theorem r_X17_operator_54 : IOK WB AD SR FW TB md_X17_operator 54 (.goto 4, 0, 0, 0, []) := io_plain (by decide +kernel) rfl
theorem r_X17_operator_58 : IOK WB AD SR FW TB md_X17_operator 58 (.istore 5, 0, 0, 0, []) := io_plain (by decide +kernel) rfl
theorem r_X17_operator_60 : IOK WB AD SR FW TB md_X17_operator 60 (.iload 5, 0, 0, 0, []) := io_plain (by decide +kernel) rfl
theorem r_X17_operator_62 : IOK WB AD SR FW TB md_X17_operator 62 (.ifCond .eq 31, 0, 0, 0, []) := io_plain (by decide +kernel) rfl
theorem r_X17_operator_65 : IOK WB AD SR FW TB md_X17_operator 65 (.iload_n 3, 0, 0, 0, []) := io_plain (by decide +kernel) rfl
theorem r_X17_operator_66 : IOK WB AD SR FW TB md_X17_operator 66 (.iconst (-1), 0, 0, 0, []) := io_plain (by decide +kernel) rfl
theorem r_X17_operator_67 : IOK WB AD SR FW TB md_X17_operator 67 (.if_icmp .eq 22, 0, 0, 0, []) := io_plain (by decide +kernel) rfl
theorem r_X17_operator_89 : IOK WB AD SR FW TB md_X17_operator 89 (.iconst 1, 0, 0, 0, []) := io_plain (by decide +kernel) rfl
theorem r_X17_operator_90 : IOK WB AD SR FW TB md_X17_operator 90 (.goto 4, 0, 0, 0, []) := io_plain (by decide +kernel) rfl
theorem r_X17_operator_94 : IOK WB AD SR FW TB md_X17_operator 94 (.istore 5, 0, 0, 0, []) := io_plain (by decide +kernel) rfl
theorem r_X17_operator_96 : IOK WB AD SR FW TB md_X17_operator 96 (.aload_n 0, 0, 0, 0, []) := io_plain (by decide +kernel) rfl
theorem r_X17_operator_97 : IOK WB AD SR FW TB md_X17_operator 97 (.iload 4, 0, 0, 0, []) := io_plain (by decide +kernel) rfl
theorem r_X17_operator_99 : IOK WB AD SR FW TB md_X17_operator 99 (.ifCond .ne 7, 0, 0, 0, []) := io_plain (by decide +kernel) rfl
theorem r_X17_operator_106 : IOK WB AD SR FW TB md_X17_operator 106 (.iload 5, 0, 0, 0, []) := io_plain (by decide +kernel) rfl
theorem r_X17_operator_108 : IOK WB AD SR FW TB md_X17_operator 108 (.ifCond .ne 7, 0, 0, 0, []) := io_plain (by decide +kernel) rfl
theorem r_X17_operator_115 : IOK WB AD SR FW TB md_X17_operator 115 (.aload_n 0, 0, 0, 0, []) := io_plain (by decide +kernel) rfl
theorem r_X17_operator_116 : IOK WB AD SR FW TB md_X17_operator 116 (.getfield 493, 18, 4, 0, []) := io_get (by decide +kernel) fo_RX17_493
theorem r_X17_operator_119 : IOK WB AD SR FW TB md_X17_operator 119 (.bipush 16, 0, 0, 0, []) := io_plain (by decide +kernel) rfl
theorem r_X17_operator_121 : IOK WB AD SR FW TB md_X17_operator 121 (.if_icmp .ne 7, 0, 0, 0, []) := io_plain (by decide +kernel) rfl
theorem r_X17_operator_128 : IOK WB AD SR FW TB md_X17_operator 128 (.iconst 0, 0, 0, 0, []) := io_plain (by decide +kernel) rfl
theorem r_X17_operator_129 : IOK WB AD SR FW TB md_X17_operator 129 (.putfield 114, 18, 0, 0, []) := io_put (by decide +kernel) fo_RX17_114 po_RX17_0_18_0_0
theorem r_X17_operator_132 : IOK WB AD SR FW TB md_X17_operator 132 (.aload_n 0, 0, 0, 0, []) := io_plain (by decide +kernel) rfl
theorem r_X17_operator_133 : IOK WB AD SR FW TB md_X17_operator 133 (.getfield 114, 18, 0, 0, []) := io_get (by decide +kernel) fo_RX17_114
theorem r_X17_operator_136 : IOK WB AD SR FW TB md_X17_operator 136 (.ifCond .le 5, 0, 0, 0, []) := io_plain (by decide +kernel) rfl
theorem r_X17_operator_141 : IOK WB AD SR FW TB md_X17_operator 141 (.aload_n 0, 0, 0, 0, []) := io_plain (by decide +kernel) rfl
theorem r_X17_operator_142 : IOK WB AD SR FW TB md_X17_operator 142 (.getfield 17, 18, 5, 2, []) := io_get (by decide +kernel) fo_RX17_17
theorem r_X17_operator_145 : IOK WB AD SR FW TB md_X17_operator 145 (.aload_n 0, 0, 0, 0, []) := io_plain (by decide +kernel) rfl
theorem r_X17_operator_146 : IOK WB AD SR FW TB md_X17_operator 146 (.getfield 493, 18, 4, 0, []) := io_get (by decide +kernel) fo_RX17_493
theorem r_X17_operator_149 : IOK WB AD SR FW TB md_X17_operator 149 (.iload_n 1, 0, 0, 0, []) := io_plain (by decide +kernel) rfl
theorem r_X17_operator_150 : IOK WB AD SR FW TB md_X17_operator 150 (.iastore, 0, 0, 0, []) := io_plain (by decide +kernel) rfl
theorem r_X17_operator_151 : IOK WB AD SR FW TB md_X17_operator 151 (.aload_n 0, 0, 0, 0, []) := io_plain (by decide +kernel) rfl
theorem r_X17_operator_152 : IOK WB AD SR FW TB md_X17_operator 152 (.getfield 20, 18, 6, 2, []) := io_get (by decide +kernel) fo_RX17_20
theorem r_X17_operator_155 : IOK WB AD SR FW TB md_X17_operator 155 (.aload_n 0, 0, 0, 0, []) := io_plain (by decide +kernel) rfl
theorem r_X17_operator_156 : IOK WB AD SR FW TB md_X17_operator 156 (.getfield 493, 18, 4, 0, []) := io_get (by decide +kernel) fo_RX17_493
theorem r_X17_operator_159 : IOK WB AD SR FW TB md_X17_operator 159 (.iload_n 2, 0, 0, 0, []) := io_plain (by decide +kernel) rfl
theorem r_X17_operator_160 : IOK WB AD SR FW TB md_X17_operator 160 (.iastore, 0, 0, 0, []) := io_plain (by decide +kernel) rfl
theorem r_X17_operator_161 : IOK WB AD SR FW TB md_X17_operator 161 (.aload_n 0, 0, 0, 0, []) := io_plain (by decide +kernel) rfl
theorem r_X17_operator_162 : IOK WB AD SR FW TB md_X17_operator 162 (.getfield 23, 18, 7, 2, []) := io_get (by decide +kernel) fo_RX17_23
theorem r_X17_operator_165 : IOK WB AD SR FW TB md_X17_operator 165 (.aload_n 0, 0, 0, 0, []) := io_plain (by decide +kernel) rfl
theorem r_X17_operator_166 : IOK WB AD SR FW TB md_X17_operator 166 (.getfield 493, 18, 4, 0, []) := io_get (by decide +kernel) fo_RX17_493
theorem r_X17_operator_169 : IOK WB AD SR FW TB md_X17_operator 169 (.iload_n 3, 0, 0, 0, []) := io_plain (by decide +kernel) rfl
theorem r_X17_operator_170 : IOK WB AD SR FW TB md_X17_operator 170 (.iastore, 0, 0, 0, []) := io_plain (by decide +kernel) rfl
theorem r_X17_operator_171 : IOK WB AD SR FW TB md_X17_operator 171 (.aload_n 0, 0, 0, 0, []) := io_plain (by decide +kernel) rfl
theorem r_X17_operator_172 : IOK WB AD SR FW TB md_X17_operator 172 (.getfield 81, 18, 31, 2, []) := io_get (by decide +kernel) fo_RX17_81
theorem r_X17_operator_175 : IOK WB AD SR FW TB md_X17_operator 175 (.aload_n 0, 0, 0, 0, []) := io_plain (by decide +kernel) rfl
theorem r_X17_operator_176 : IOK WB AD SR FW TB md_X17_operator 176 (.getfield 493, 18, 4, 0, []) := io_get (by decide +kernel) fo_RX17_493
theorem r_X17_operator_179 : IOK WB AD SR FW TB md_X17_operator 179 (.iload_n 3, 0, 0, 0, []) := io_plain (by decide +kernel) rfl
theorem r_X17_operator_180 : IOK WB AD SR FW TB md_X17_operator 180 (.iconst (-1), 0, 0, 0, []) := io_plain (by decide +kernel) rfl
theorem r_X17_operator_181 : IOK WB AD SR FW TB md_X17_operator 181 (.if_icmp .ne 7, 0, 0, 0, []) := io_plain (by decide +kernel) rfl
theorem r_X17_operator_184 : IOK WB AD SR FW TB md_X17_operator 184 (.aconst_null, 0, 0, 0, []) := io_plain (by decide +kernel) rfl
theorem r_X17_operator_185 : IOK WB AD SR FW TB md_X17_operator 185 (.goto 16, 0, 0, 0, []) := io_plain (by decide +kernel) rfl
theorem r_X17_operator_201 : IOK WB AD SR FW TB md_X17_operator 201 (.aastore, 0, 0, 0, []) := io_plain (by decide +kernel) rfl
theorem r_X17_operator_202 : IOK WB AD SR FW TB md_X17_operator 202 (.aload_n 0, 0, 0, 0, []) := io_plain (by decide +kernel) rfl
theorem r_X17_operator_203 : IOK WB AD SR FW TB md_X17_operator 203 (.getfield 38, 18, 12, 2, []) := io_get (by decide +kernel) fo_RX17_38
theorem r_X17_operator_206 : IOK WB AD SR FW TB md_X17_operator 206 (.aload_n 0, 0, 0, 0, []) := io_plain (by decide +kernel) rfl
theorem r_X17_operator_207 : IOK WB AD SR FW TB md_X17_operator 207 (.getfield 493, 18, 4, 0, []) := io_get (by decide +kernel) fo_RX17_493
theorem r_X17_operator_210 : IOK WB AD SR FW TB md_X17_operator 210 (.aload_n 0, 0, 0, 0, []) := io_plain (by decide +kernel) rfl
theorem r_X17_operator_211 : IOK WB AD SR FW TB md_X17_operator 211 (.getfield 493, 18, 4, 0, []) := io_get (by decide +kernel) fo_RX17_493
theorem r_X17_operator_214 : IOK WB AD SR FW TB md_X17_operator 214 (.iastore, 0, 0, 0, []) := io_plain (by decide +kernel) rfl
theorem r_X17_operator_215 : IOK WB AD SR FW TB md_X17_operator 215 (.iconst 0, 0, 0, 0, []) := io_plain (by decide +kernel) rfl
theorem r_X17_operator_216 : IOK WB AD SR FW TB md_X17_operator 216 (.istore 6, 0, 0, 0, []) := io_plain (by decide +kernel) rfl
theorem r_X17_operator_218 : IOK WB AD SR FW TB md_X17_operator 218 (.iload 6, 0, 0, 0, []) := io_plain (by decide +kernel) rfl
theorem r_X17_operator_220 : IOK WB AD SR FW TB md_X17_operator 220 (.iconst 4, 0, 0, 0, []) := io_plain (by decide +kernel) rfl
theorem r_X17_operator_221 : IOK WB AD SR FW TB md_X17_operator 221 (.if_icmp .ge 24, 0, 0, 0, []) := io_plain (by decide +kernel) rfl
theorem r_X17_operator_224 : IOK WB AD SR FW TB md_X17_operator 224 (.aload_n 0, 0, 0, 0, []) := io_plain (by decide +kernel) rfl
theorem r_X17_operator_225 : IOK WB AD SR FW TB md_X17_operator 225 (.getfield 35, 18, 11, 2, []) := io_get (by decide +kernel) fo_RX17_35
theorem r_X17_operator_228 : IOK WB AD SR FW TB md_X17_operator 228 (.iconst 4, 0, 0, 0, []) := io_plain (by decide +kernel) rfl
theorem r_X17_operator_229 : IOK WB AD SR FW TB md_X17_operator 229 (.aload_n 0, 0, 0, 0, []) := io_plain (by decide +kernel) rfl
theorem r_X17_operator_230 : IOK WB AD SR FW TB md_X17_operator 230 (.getfield 493, 18, 4, 0, []) := io_get (by decide +kernel) fo_RX17_493
theorem r_X17_operator_233 : IOK WB AD SR FW TB md_X17_operator 233 (.imul, 0, 0, 0, []) := io_plain (by decide +kernel) rfl
theorem r_X17_operator_234 : IOK WB AD SR FW TB md_X17_operator 234 (.iload 6, 0, 0, 0, []) := io_plain (by decide +kernel) rfl
theorem r_X17_operator_236 : IOK WB AD SR FW TB md_X17_operator 236 (.iadd, 0, 0, 0, []) := io_plain (by decide +kernel) rfl
theorem r_X17_operator_237 : IOK WB AD SR FW TB md_X17_operator 237 (.iconst 1, 0, 0, 0, []) := io_plain (by decide +kernel) rfl
theorem r_X17_operator_238 : IOK WB AD SR FW TB md_X17_operator 238 (.iastore, 0, 0, 0, []) := io_plain (by decide +kernel) rfl
theorem r_X17_operator_239 : IOK WB AD SR FW TB md_X17_operator 239 (.iinc 6 1, 0, 0, 0, []) := io_plain (by decide +kernel) rfl
theorem r_X17_operator_242 : IOK WB AD SR FW TB md_X17_operator 242 (.goto (-24), 0, 0, 0, []) := io_plain (by decide +kernel) rfl
theorem r_X17_operator_245 : IOK WB AD SR FW TB md_X17_operator 245 (.aload_n 0, 0, 0, 0, []) := io_plain (by decide +kernel) rfl
theorem r_X17_operator_246 : IOK WB AD SR FW TB md_X17_operator 246 (.dup, 0, 0, 0, []) := io_plain (by decide +kernel) rfl
theorem r_X17_operator_247 : IOK WB AD SR FW TB md_X17_operator 247 (.getfield 493, 18, 4, 0, []) := io_get (by decide +kernel) fo_RX17_493
theorem r_X17_operator_250 : IOK WB AD SR FW TB md_X17_operator 250 (.iconst 1, 0, 0, 0, []) := io_plain (by decide +kernel) rfl
theorem r_X17_operator_251 : IOK WB AD SR FW TB md_X17_operator 251 (.iadd, 0, 0, 0, []) := io_plain (by decide +kernel) rfl
theorem r_X17_operator_252 : IOK WB AD SR FW TB md_X17_operator 252 (.putfield 493, 18, 4, 0, []) := io_put (by decide +kernel) fo_RX17_493 po_RX17_0_18_4_0
theorem r_X17_operator_255 : IOK WB AD SR FW TB md_X17_operator 255 (.aload_n 0, 0, 0, 0, []) := io_plain (by decide +kernel) rfl
theorem r_X17_operator_256 : IOK WB AD SR FW TB md_X17_operator 256 (.getfield 493, 18, 4, 0, []) := io_get (by decide +kernel) fo_RX17_493
theorem r_X17_operator_259 : IOK WB AD SR FW TB md_X17_operator 259 (.iconst 1, 0, 0, 0, []) := io_plain (by decide +kernel) rfl
theorem r_X17_operator_260 : IOK WB AD SR FW TB md_X17_operator 260 (.isub, 0, 0, 0, []) := io_plain (by decide +kernel) rfl
theorem r_X17_operator_261 : IOK WB AD SR FW TB md_X17_operator 261 (.ireturn, 0, 0, 0, []) := io_plain (by decide +kernel) rfl
set_option maxRecDepth 100000 in
theorem ok_X17_operator_0 : ∀ q ∈ tl_X17_operator_0, IOK WB AD SR FW TB md_X17_operator q.1 q.2 := List.forall_mem_cons.mpr ⟨r_X17_operator_0, List.forall_mem_cons.mpr ⟨r_X17_operator_1, List.forall_mem_cons.mpr ⟨r_X17_operator_2, List.forall_mem_cons.mpr ⟨r_X17_operator_19, List.forall_mem_cons.mpr ⟨r_X17_operator_20, List.forall_mem_cons.mpr ⟨r_X17_operator_24, List.forall_mem_cons.mpr ⟨r_X17_operator_26, List.forall_mem_cons.mpr ⟨r_X17_operator_27, List.forall_mem_cons.mpr ⟨r_X17_operator_28, List.forall_mem_cons.mpr ⟨r_X17_operator_29, List.forall_mem_cons.mpr ⟨r_X17_operator_32, List.forall_mem_cons.mpr ⟨r_X17_operator_35, List.forall_mem_cons.mpr ⟨r_X17_operator_36, List.forall_mem_cons.mpr ⟨r_X17_operator_37, List.forall_mem_cons.mpr ⟨r_X17_operator_38, List.forall_mem_cons.mpr ⟨r_X17_operator_41, List.forall_mem_cons.mpr ⟨r_X17_operator_44, List.forall_mem_cons.mpr ⟨r_X17_operator_45, List.forall_mem_cons.mpr ⟨r_X17_operator_53, List.forall_mem_cons.mpr ⟨r_X17_operator_54, List.forall_mem_cons.mpr ⟨r_X17_operator_58, List.forall_mem_cons.mpr ⟨r_X17_operator_60, List.forall_mem_cons.mpr ⟨r_X17_operator_62, List.forall_mem_cons.mpr ⟨r_X17_operator_65, List.forall_mem_cons.mpr ⟨r_X17_operator_66, List.forall_mem_cons.mpr ⟨r_X17_operator_67, List.forall_mem_cons.mpr ⟨r_X17_operator_89, List.forall_mem_cons.mpr ⟨r_X17_operator_90, List.forall_mem_cons.mpr ⟨r_X17_operator_94, List.forall_mem_cons.mpr ⟨r_X17_operator_96, List.forall_mem_cons.mpr ⟨r_X17_operator_97, List.forall_mem_cons.mpr ⟨r_X17_operator_99, List.forall_mem_cons.mpr ⟨r_X17_operator_106, List.forall_mem_cons.mpr ⟨r_X17_operator_108, List.forall_mem_cons.mpr ⟨r_X17_operator_115, List.forall_mem_cons.mpr ⟨r_X17_operator_116, List.forall_mem_cons.mpr ⟨r_X17_operator_119, List.forall_mem_cons.mpr ⟨r_X17_operator_121, List.forall_mem_cons.mpr ⟨r_X17_operator_128, List.forall_mem_cons.mpr ⟨r_X17_operator_129, fun _ h => absurd h List.not_mem_nil⟩⟩⟩⟩⟩⟩⟩⟩⟩⟩⟩⟩⟩⟩⟩⟩⟩⟩⟩⟩⟩⟩⟩⟩⟩⟩⟩⟩⟩⟩⟩⟩⟩⟩⟩⟩⟩⟩⟩⟩
set_option maxRecDepth 100000 in
theorem tq_X17_operator_0 : tf_X17_operator_0 = tl_X17_operator_0.map (fun q => (q.1, stepOf NPf md_X17_operator q.2)) := rfl
set_option maxRecDepth 100000 in
theorem ok_X17_operator_1 : ∀ q ∈ tl_X17_operator_1, IOK WB AD SR FW TB md_X17_operator q.1 q.2 := List.forall_mem_cons.mpr ⟨r_X17_operator_132, List.forall_mem_cons.mpr ⟨r_X17_operator_133, List.forall_mem_cons.mpr ⟨r_X17_operator_136, List.forall_mem_cons.mpr ⟨r_X17_operator_141, List.forall_mem_cons.mpr ⟨r_X17_operator_142, List.forall_mem_cons.mpr ⟨r_X17_operator_145, List.forall_mem_cons.mpr ⟨r_X17_operator_146, List.forall_mem_cons.mpr ⟨r_X17_operator_149, List.forall_mem_cons.mpr ⟨r_X17_operator_150, List.forall_mem_cons.mpr ⟨r_X17_operator_151, List.forall_mem_cons.mpr ⟨r_X17_operator_152, List.forall_mem_cons.mpr ⟨r_X17_operator_155, List.forall_mem_cons.mpr ⟨r_X17_operator_156, List.forall_mem_cons.mpr ⟨r_X17_operator_159, List.forall_mem_cons.mpr ⟨r_X17_operator_160, List.forall_mem_cons.mpr ⟨r_X17_operator_161, List.forall_mem_cons.mpr ⟨r_X17_operator_162, List.forall_mem_cons.mpr ⟨r_X17_operator_165, List.forall_mem_cons.mpr ⟨r_X17_operator_166, List.forall_mem_cons.mpr ⟨r_X17_operator_169, List.forall_mem_cons.mpr ⟨r_X17_operator_170, List.forall_mem_cons.mpr ⟨r_X17_operator_171, List.forall_mem_cons.mpr ⟨r_X17_operator_172, List.forall_mem_cons.mpr ⟨r_X17_operator_175, List.forall_mem_cons.mpr ⟨r_X17_operator_176, List.forall_mem_cons.mpr ⟨r_X17_operator_179, List.forall_mem_cons.mpr ⟨r_X17_operator_180, List.forall_mem_cons.mpr ⟨r_X17_operator_181, List.forall_mem_cons.mpr ⟨r_X17_operator_184, List.forall_mem_cons.mpr ⟨r_X17_operator_185, List.forall_mem_cons.mpr ⟨r_X17_operator_201, List.forall_mem_cons.mpr ⟨r_X17_operator_202, List.forall_mem_cons.mpr ⟨r_X17_operator_203, List.forall_mem_cons.mpr ⟨r_X17_operator_206, List.forall_mem_cons.mpr ⟨r_X17_operator_207, List.forall_mem_cons.mpr ⟨r_X17_operator_210, List.forall_mem_cons.mpr ⟨r_X17_operator_211, List.forall_mem_cons.mpr ⟨r_X17_operator_214, List.forall_mem_cons.mpr ⟨r_X17_operator_215, List.forall_mem_cons.mpr ⟨r_X17_operator_216, fun _ h => absurd h List.not_mem_nil⟩⟩⟩⟩⟩⟩⟩⟩⟩⟩⟩⟩⟩⟩⟩⟩⟩⟩⟩⟩⟩⟩⟩⟩⟩⟩⟩⟩⟩⟩⟩⟩⟩⟩⟩⟩⟩⟩⟩⟩
set_option maxRecDepth 100000 in
theorem tq_X17_operator_1 : tf_X17_operator_1 = tl_X17_operator_1.map (fun q => (q.1, stepOf NPf md_X17_operator q.2)) := rfl
set_option maxRecDepth 100000 in
theorem ok_X17_operator_2 : ∀ q ∈ tl_X17_operator_2, IOK WB AD SR FW TB md_X17_operator q.1 q.2 := List.forall_mem_cons.mpr ⟨r_X17_operator_218, List.forall_mem_cons.mpr ⟨r_X17_operator_220, List.forall_mem_cons.mpr ⟨r_X17_operator_221, List.forall_mem_cons.mpr ⟨r_X17_operator_224, List.forall_mem_cons.mpr ⟨r_X17_operator_225, List.forall_mem_cons.mpr ⟨r_X17_operator_228, List.forall_mem_cons.mpr ⟨r_X17_operator_229, List.forall_mem_cons.mpr ⟨r_X17_operator_230, List.forall_mem_cons.mpr ⟨r_X17_operator_233, List.forall_mem_cons.mpr ⟨r_X17_operator_234, List.forall_mem_cons.mpr ⟨r_X17_operator_236, List.forall_mem_cons.mpr ⟨r_X17_operator_237, List.forall_mem_cons.mpr ⟨r_X17_operator_238, List.forall_mem_cons.mpr ⟨r_X17_operator_239, List.forall_mem_cons.mpr ⟨r_X17_operator_242, List.forall_mem_cons.mpr ⟨r_X17_operator_245, List.forall_mem_cons.mpr ⟨r_X17_operator_246, List.forall_mem_cons.mpr ⟨r_X17_operator_247, List.forall_mem_cons.mpr ⟨r_X17_operator_250, List.forall_mem_cons.mpr ⟨r_X17_operator_251, List.forall_mem_cons.mpr ⟨r_X17_operator_252, List.forall_mem_cons.mpr ⟨r_X17_operator_255, List.forall_mem_cons.mpr ⟨r_X17_operator_256, List.forall_mem_cons.mpr ⟨r_X17_operator_259, List.forall_mem_cons.mpr ⟨r_X17_operator_260, List.forall_mem_cons.mpr ⟨r_X17_operator_261, fun _ h => absurd h List.not_mem_nil⟩⟩⟩⟩⟩⟩⟩⟩⟩⟩⟩⟩⟩⟩⟩⟩⟩⟩⟩⟩⟩⟩⟩⟩⟩⟩
set_option maxRecDepth 100000 in
theorem tq_X17_operator_2 : tf_X17_operator_2 = tl_X17_operator_2.map (fun q => (q.1, stepOf NPf md_X17_operator q.2)) := rfl
theorem ro_X17_operator : RowsOK (md_X17_operator, tl_X17_operator) tf_X17_operator := rows_app ⟨tq_X17_operator_0, ok_X17_operator_0⟩ (rows_app ⟨tq_X17_operator_1, ok_X17_operator_1⟩ (⟨tq_X17_operator_2, ok_X17_operator_2⟩))
theorem r_X10_stackAt_0 : IOK WB AD SR FW TB md_X10_stackAt 0 (.bipush 20, 0, 0, 0, []) := io_plain (by decide +kernel) rfl
theorem r_X10_stackAt_2 : IOK WB AD SR FW TB md_X10_stackAt 2 (.iload_n 0, 0, 0, 0, []) := io_plain (by decide +kernel) rfl
theorem r_X10_stackAt_3 : IOK WB AD SR FW TB md_X10_stackAt 3 (.bipush 20, 0, 0, 0, []) := io_plain (by decide +kernel) rfl
theorem r_X10_stackAt_5 : IOK WB AD SR FW TB md_X10_stackAt 5 (.imul, 0, 0, 0, []) := io_plain (by decide +kernel) rfl
theorem r_X10_stackAt_6 : IOK WB AD SR FW TB md_X10_stackAt 6 (.iadd, 0, 0, 0, []) := io_plain (by decide +kernel) rfl
theorem r_X10_stackAt_7 : IOK WB AD SR FW TB md_X10_stackAt 7 (.ireturn, 0, 0, 0, []) := io_plain (by decide +kernel) rfl
set_option maxRecDepth 100000 in
theorem ok_X10_stackAt_0 : ∀ q ∈ tl_X10_stackAt, IOK WB AD SR FW TB md_X10_stackAt q.1 q.2 := List.forall_mem_cons.mpr ⟨r_X10_stackAt_0, List.forall_mem_cons.mpr ⟨r_X10_stackAt_2, List.forall_mem_cons.mpr ⟨r_X10_stackAt_3, List.forall_mem_cons.mpr ⟨r_X10_stackAt_5, List.forall_mem_cons.mpr ⟨r_X10_stackAt_6, List.forall_mem_cons.mpr ⟨r_X10_stackAt_7, fun _ h => absurd h List.not_mem_nil⟩⟩⟩⟩⟩⟩
set_option maxRecDepth 100000 in
theorem tq_X10_stackAt_0 : tf_X10_stackAt = tl_X10_stackAt.map (fun q => (q.1, stepOf NPf md_X10_stackAt q.2)) := rfl
theorem ro_X10_stackAt : RowsOK (md_X10_stackAt, tl_X10_stackAt) tf_X10_stackAt := ⟨tq_X10_stackAt_0, ok_X10_stackAt_0⟩
theorem r_X17_isHeld_0 : IOK WB AD SR FW TB md_X17_isHeld 0 (.aload_n 1, 0, 0, 0, []) := io_plain (by decide +kernel) rfl
theorem r_X17_isHeld_1 : IOK WB AD SR FW TB md_X17_isHeld 1 (.getfield 253, 14, 2, 2, []) := io_get (by decide +kernel) fo_RX17_253
theorem r_X17_isHeld_4 : IOK WB AD SR FW TB md_X17_isHeld 4 (.ifnonnull 5, 0, 0, 0, []) := io_plain (by decide +kernel) rfl
theorem r_X17_isHeld_7 : IOK WB AD SR FW TB md_X17_isHeld 7 (.iconst 1, 0, 0, 0, []) := io_plain (by decide +kernel) rfl
theorem r_X17_isHeld_8 : IOK WB AD SR FW TB md_X17_isHeld 8 (.ireturn, 0, 0, 0, []) := io_plain (by decide +kernel) rfl
set_option maxRecDepth 100000 in
theorem ok_X17_isHeld_0 : ∀ q ∈ tl_X17_isHeld, IOK WB AD SR FW TB md_X17_isHeld q.1 q.2 := List.forall_mem_cons.mpr ⟨r_X17_isHeld_0, List.forall_mem_cons.mpr ⟨r_X17_isHeld_1, List.forall_mem_cons.mpr ⟨r_X17_isHeld_4, List.forall_mem_cons.mpr ⟨r_X17_isHeld_7, List.forall_mem_cons.mpr ⟨r_X17_isHeld_8, fun _ h => absurd h List.not_mem_nil⟩⟩⟩⟩⟩
set_option maxRecDepth 100000 in
theorem tq_X17_isHeld_0 : tf_X17_isHeld = tl_X17_isHeld.map (fun q => (q.1, stepOf NPf md_X17_isHeld q.2)) := rfl
theorem ro_X17_isHeld : RowsOK (md_X17_isHeld, tl_X17_isHeld) tf_X17_isHeld := ⟨tq_X17_isHeld_0, ok_X17_isHeld_0⟩
theorem r_X17_count_0 : IOK WB AD SR FW TB md_X17_count 0 (.iconst 0, 0, 0, 0, []) := io_plain (by decide +kernel) rfl
theorem r_X17_count_1 : IOK WB AD SR FW TB md_X17_count 1 (.istore_n 1, 0, 0, 0, []) := io_plain (by decide +kernel) rfl
theorem r_X17_count_2 : IOK WB AD SR FW TB md_X17_count 2 (.iconst 0, 0, 0, 0, []) := io_plain (by decide +kernel) rfl
theorem r_X17_count_3 : IOK WB AD SR FW TB md_X17_count 3 (.istore_n 2, 0, 0, 0, []) := io_plain (by decide +kernel) rfl
theorem r_X17_count_4 : IOK WB AD SR FW TB md_X17_count 4 (.iload_n 2, 0, 0, 0, []) := io_plain (by decide +kernel) rfl
theorem r_X17_count_5 : IOK WB AD SR FW TB md_X17_count 5 (.bipush 20, 0, 0, 0, []) := io_plain (by decide +kernel) rfl
theorem r_X17_count_7 : IOK WB AD SR FW TB md_X17_count 7 (.if_icmp .ge 17, 0, 0, 0, []) := io_plain (by decide +kernel) rfl
theorem r_X17_count_10 : IOK WB AD SR FW TB md_X17_count 10 (.iload_n 1, 0, 0, 0, []) := io_plain (by decide +kernel) rfl
theorem r_X17_count_11 : IOK WB AD SR FW TB md_X17_count 11 (.iload_n 0, 0, 0, 0, []) := io_plain (by decide +kernel) rfl
theorem r_X17_count_12 : IOK WB AD SR FW TB md_X17_count 12 (.iload_n 2, 0, 0, 0, []) := io_plain (by decide +kernel) rfl
theorem r_X17_count_13 : IOK WB AD SR FW TB md_X17_count 13 (.ishr, 0, 0, 0, []) := io_plain (by decide +kernel) rfl
theorem r_X17_count_14 : IOK WB AD SR FW TB md_X17_count 14 (.iconst 1, 0, 0, 0, []) := io_plain (by decide +kernel) rfl
theorem r_X17_count_15 : IOK WB AD SR FW TB md_X17_count 15 (.iand, 0, 0, 0, []) := io_plain (by decide +kernel) rfl
theorem r_X17_count_16 : IOK WB AD SR FW TB md_X17_count 16 (.iadd, 0, 0, 0, []) := io_plain (by decide +kernel) rfl
theorem r_X17_count_17 : IOK WB AD SR FW TB md_X17_count 17 (.istore_n 1, 0, 0, 0, []) := io_plain (by decide +kernel) rfl
theorem r_X17_count_18 : IOK WB AD SR FW TB md_X17_count 18 (.iinc 2 1, 0, 0, 0, []) := io_plain (by decide +kernel) rfl
theorem r_X17_count_21 : IOK WB AD SR FW TB md_X17_count 21 (.goto (-17), 0, 0, 0, []) := io_plain (by decide +kernel) rfl
theorem r_X17_count_24 : IOK WB AD SR FW TB md_X17_count 24 (.iload_n 1, 0, 0, 0, []) := io_plain (by decide +kernel) rfl
theorem r_X17_count_25 : IOK WB AD SR FW TB md_X17_count 25 (.ireturn, 0, 0, 0, []) := io_plain (by decide +kernel) rfl
set_option maxRecDepth 100000 in
theorem ok_X17_count_0 : ∀ q ∈ tl_X17_count, IOK WB AD SR FW TB md_X17_count q.1 q.2 := List.forall_mem_cons.mpr ⟨r_X17_count_0, List.forall_mem_cons.mpr ⟨r_X17_count_1, List.forall_mem_cons.mpr ⟨r_X17_count_2, List.forall_mem_cons.mpr ⟨r_X17_count_3, List.forall_mem_cons.mpr ⟨r_X17_count_4, List.forall_mem_cons.mpr ⟨r_X17_count_5, List.forall_mem_cons.mpr ⟨r_X17_count_7, List.forall_mem_cons.mpr ⟨r_X17_count_10, List.forall_mem_cons.mpr ⟨r_X17_count_11, List.forall_mem_cons.mpr ⟨r_X17_count_12, List.forall_mem_cons.mpr ⟨r_X17_count_13, List.forall_mem_cons.mpr ⟨r_X17_count_14, List.forall_mem_cons.mpr ⟨r_X17_count_15, List.forall_mem_cons.mpr ⟨r_X17_count_16, List.forall_mem_cons.mpr ⟨r_X17_count_17, List.forall_mem_cons.mpr ⟨r_X17_count_18, List.forall_mem_cons.mpr ⟨r_X17_count_21, List.forall_mem_cons.mpr ⟨r_X17_count_24, List.forall_mem_cons.mpr ⟨r_X17_count_25, fun _ h => absurd h List.not_mem_nil⟩⟩⟩⟩⟩⟩⟩⟩⟩⟩⟩⟩⟩⟩⟩⟩⟩⟩⟩
set_option maxRecDepth 100000 in
theorem tq_X17_count_0 : tf_X17_count = tl_X17_count.map (fun q => (q.1, stepOf NPf md_X17_count q.2)) := rfl
theorem ro_X17_count : RowsOK (md_X17_count, tl_X17_count) tf_X17_count := ⟨tq_X17_count_0, ok_X17_count_0⟩
theorem r_X8_init_0 : IOK WB AD SR FW TB md_X8_init 0 (.aload_n 0, 0, 0, 0, []) := io_plain (by decide +kernel) rfl
theorem r_X8_init_1 : IOK WB AD SR FW TB md_X8_init 1 (.invokespecial 3, 1000, 0, 0, []) := io_obj (by decide +kernel) (wb_1 114 rfl rfl) ob_1 ob_2
theorem r_X8_init_4 : IOK WB AD SR FW TB md_X8_init 4 (.aload_n 0, 0, 0, 0, []) := io_plain (by decide +kernel) rfl
theorem r_X8_init_5 : IOK WB AD SR FW TB md_X8_init 5 (.sipush 27500, 0, 0, 0, []) := io_plain (by decide +kernel) rfl
theorem r_X8_init_8 : IOK WB AD SR FW TB md_X8_init 8 (.newarray .int, 0, 0, 0, []) := io_newa (by decide +kernel) (Or.inl ⟨rfl, rfl⟩) ac_int
theorem r_X8_init_10 : IOK WB AD SR FW TB md_X8_init 10 (.putfield 9, 9, 1, 2, []) := io_put (by decide +kernel) fo_RX8_9 po_RX8_1_9_1_2
theorem r_X8_init_13 : IOK WB AD SR FW TB md_X8_init 13 (.aload_n 0, 0, 0, 0, []) := io_plain (by decide +kernel) rfl
theorem r_X8_init_14 : IOK WB AD SR FW TB md_X8_init 14 (.sipush 7500, 0, 0, 0, []) := io_plain (by decide +kernel) rfl
theorem r_X8_init_17 : IOK WB AD SR FW TB md_X8_init 17 (.putfield 15, 9, 2, 0, []) := io_put (by decide +kernel) fo_RX8_15 po_RX8_1_9_2_0
theorem r_X8_init_20 : IOK WB AD SR FW TB md_X8_init 20 (.aload_n 0, 0, 0, 0, []) := io_plain (by decide +kernel) rfl
theorem r_X8_init_21 : IOK WB AD SR FW TB md_X8_init 21 (.sipush 1280, 0, 0, 0, []) := io_plain (by decide +kernel) rfl
theorem r_X8_init_24 : IOK WB AD SR FW TB md_X8_init 24 (.newarray .int, 0, 0, 0, []) := io_newa (by decide +kernel) (Or.inl ⟨rfl, rfl⟩) ac_int
theorem r_X8_init_26 : IOK WB AD SR FW TB md_X8_init 26 (.putfield 19, 9, 3, 2, []) := io_put (by decide +kernel) fo_RX8_19 po_RX8_1_9_3_2
theorem r_X8_init_29 : IOK WB AD SR FW TB md_X8_init 29 (.aload_n 0, 0, 0, 0, []) := io_plain (by decide +kernel) rfl
theorem r_X8_init_30 : IOK WB AD SR FW TB md_X8_init 30 (.iconst 5, 0, 0, 0, []) := io_plain (by decide +kernel) rfl
theorem r_X8_init_31 : IOK WB AD SR FW TB md_X8_init 31 (.newarray .int, 0, 0, 0, []) := io_newa (by decide +kernel) (Or.inl ⟨rfl, rfl⟩) ac_int
theorem r_X8_init_33 : IOK WB AD SR FW TB md_X8_init 33 (.putfield 22, 9, 5, 2, []) := io_put (by decide +kernel) fo_RX8_22 po_RX8_1_9_5_2
theorem r_X8_init_36 : IOK WB AD SR FW TB md_X8_init 36 (.aload_n 0, 0, 0, 0, []) := io_plain (by decide +kernel) rfl
theorem r_X8_init_37 : IOK WB AD SR FW TB md_X8_init 37 (.iconst 5, 0, 0, 0, []) := io_plain (by decide +kernel) rfl
theorem r_X8_init_38 : IOK WB AD SR FW TB md_X8_init 38 (.newarray .int, 0, 0, 0, []) := io_newa (by decide +kernel) (Or.inl ⟨rfl, rfl⟩) ac_int
theorem r_X8_init_40 : IOK WB AD SR FW TB md_X8_init 40 (.putfield 25, 9, 6, 2, []) := io_put (by decide +kernel) fo_RX8_25 po_RX8_1_9_6_2
theorem r_X8_init_43 : IOK WB AD SR FW TB md_X8_init 43 (.aload_n 0, 0, 0, 0, []) := io_plain (by decide +kernel) rfl
theorem r_X8_init_44 : IOK WB AD SR FW TB md_X8_init 44 (.bipush 20, 0, 0, 0, []) := io_plain (by decide +kernel) rfl
theorem r_X8_init_46 : IOK WB AD SR FW TB md_X8_init 46 (.newarray .int, 0, 0, 0, []) := io_newa (by decide +kernel) (Or.inl ⟨rfl, rfl⟩) ac_int
theorem r_X8_init_48 : IOK WB AD SR FW TB md_X8_init 48 (.putfield 28, 9, 7, 2, []) := io_put (by decide +kernel) fo_RX8_28 po_RX8_1_9_7_2
theorem r_X8_init_51 : IOK WB AD SR FW TB md_X8_init 51 (.aload_n 0, 0, 0, 0, []) := io_plain (by decide +kernel) rfl
theorem r_X8_init_52 : IOK WB AD SR FW TB md_X8_init 52 (.iconst (-1), 0, 0, 0, []) := io_plain (by decide +kernel) rfl
theorem r_X8_init_53 : IOK WB AD SR FW TB md_X8_init 53 (.putfield 31, 9, 8, 0, []) := io_put (by decide +kernel) fo_RX8_31 po_RX8_1_9_8_0
theorem r_X8_init_56 : IOK WB AD SR FW TB md_X8_init 56 (.aload_n 0, 0, 0, 0, []) := io_plain (by decide +kernel) rfl
theorem r_X8_init_57 : IOK WB AD SR FW TB md_X8_init 57 (.iconst (-1), 0, 0, 0, []) := io_plain (by decide +kernel) rfl
theorem r_X8_init_58 : IOK WB AD SR FW TB md_X8_init 58 (.putfield 34, 9, 9, 0, []) := io_put (by decide +kernel) fo_RX8_34 po_RX8_1_9_9_0
theorem r_X8_init_61 : IOK WB AD SR FW TB md_X8_init 61 (.aload_n 0, 0, 0, 0, []) := io_plain (by decide +kernel) rfl
theorem r_X8_init_62 : IOK WB AD SR FW TB md_X8_init 62 (.aload_n 1, 0, 0, 0, []) := io_plain (by decide +kernel) rfl
theorem r_X8_init_63 : IOK WB AD SR FW TB md_X8_init 63 (.putfield 37, 9, 0, 2, []) := io_put (by decide +kernel) fo_RX8_37 po_RX8_1_9_0_2
theorem r_X8_init_66 : IOK WB AD SR FW TB md_X8_init 66 (.iconst 0, 0, 0, 0, []) := io_plain (by decide +kernel) rfl
theorem r_X8_init_67 : IOK WB AD SR FW TB md_X8_init 67 (.istore_n 2, 0, 0, 0, []) := io_plain (by decide +kernel) rfl
theorem r_X8_init_68 : IOK WB AD SR FW TB md_X8_init 68 (.iload_n 2, 0, 0, 0, []) := io_plain (by decide +kernel) rfl
theorem r_X8_init_69 : IOK WB AD SR FW TB md_X8_init 69 (.bipush 20, 0, 0, 0, []) := io_plain (by decide +kernel) rfl
theorem r_X8_init_71 : IOK WB AD SR FW TB md_X8_init 71 (.if_icmp .ge 16, 0, 0, 0, []) := io_plain (by decide +kernel) rfl
theorem r_X8_init_74 : IOK WB AD SR FW TB md_X8_init 74 (.aload_n 0, 0, 0, 0, []) := io_plain (by decide +kernel) rfl
theorem r_X8_init_75 : IOK WB AD SR FW TB md_X8_init 75 (.getfield 9, 9, 1, 2, []) := io_get (by decide +kernel) fo_RX8_9
theorem r_X8_init_78 : IOK WB AD SR FW TB md_X8_init 78 (.iload_n 2, 0, 0, 0, []) := io_plain (by decide +kernel) rfl
theorem r_X8_init_79 : IOK WB AD SR FW TB md_X8_init 79 (.iload_n 2, 0, 0, 0, []) := io_plain (by decide +kernel) rfl
theorem r_X8_init_80 : IOK WB AD SR FW TB md_X8_init 80 (.iastore, 0, 0, 0, []) := io_plain (by decide +kernel) rfl
theorem r_X8_init_81 : IOK WB AD SR FW TB md_X8_init 81 (.iinc 2 1, 0, 0, 0, []) := io_plain (by decide +kernel) rfl
theorem r_X8_init_84 : IOK WB AD SR FW TB md_X8_init 84 (.goto (-16), 0, 0, 0, []) := io_plain (by decide +kernel) rfl
theorem r_X8_init_87 : IOK WB AD SR FW TB md_X8_init 87 (.return_, 0, 0, 0, []) := io_void (by decide +kernel) rfl
set_option maxRecDepth 100000 in
theorem ok_X8_init_0 : ∀ q ∈ tl_X8_init_0, IOK WB AD SR FW TB md_X8_init q.1 q.2 := List.forall_mem_cons.mpr ⟨r_X8_init_0, List.forall_mem_cons.mpr ⟨r_X8_init_1, List.forall_mem_cons.mpr ⟨r_X8_init_4, List.forall_mem_cons.mpr ⟨r_X8_init_5, List.forall_mem_cons.mpr ⟨r_X8_init_8, List.forall_mem_cons.mpr ⟨r_X8_init_10, List.forall_mem_cons.mpr ⟨r_X8_init_13, List.forall_mem_cons.mpr ⟨r_X8_init_14, List.forall_mem_cons.mpr ⟨r_X8_init_17, List.forall_mem_cons.mpr ⟨r_X8_init_20, List.forall_mem_cons.mpr ⟨r_X8_init_21, List.forall_mem_cons.mpr ⟨r_X8_init_24, List.forall_mem_cons.mpr ⟨r_X8_init_26, List.forall_mem_cons.mpr ⟨r_X8_init_29, List.forall_mem_cons.mpr ⟨r_X8_init_30, List.forall_mem_cons.mpr ⟨r_X8_init_31, List.forall_mem_cons.mpr ⟨r_X8_init_33, List.forall_mem_cons.mpr ⟨r_X8_init_36, List.forall_mem_cons.mpr ⟨r_X8_init_37, List.forall_mem_cons.mpr ⟨r_X8_init_38, List.forall_mem_cons.mpr ⟨r_X8_init_40, List.forall_mem_cons.mpr ⟨r_X8_init_43, List.forall_mem_cons.mpr ⟨r_X8_init_44, List.forall_mem_cons.mpr ⟨r_X8_init_46, List.forall_mem_cons.mpr ⟨r_X8_init_48, List.forall_mem_cons.mpr ⟨r_X8_init_51, List.forall_mem_cons.mpr ⟨r_X8_init_52, List.forall_mem_cons.mpr ⟨r_X8_init_53, List.forall_mem_cons.mpr ⟨r_X8_init_56, List.forall_mem_cons.mpr ⟨r_X8_init_57, List.forall_mem_cons.mpr ⟨r_X8_init_58, List.forall_mem_cons.mpr ⟨r_X8_init_61, List.forall_mem_cons.mpr ⟨r_X8_init_62, List.forall_mem_cons.mpr ⟨r_X8_init_63, List.forall_mem_cons.mpr ⟨r_X8_init_66, List.forall_mem_cons.mpr ⟨r_X8_init_67, List.forall_mem_cons.mpr ⟨r_X8_init_68, List.forall_mem_cons.mpr ⟨r_X8_init_69, List.forall_mem_cons.mpr ⟨r_X8_init_71, List.forall_mem_cons.mpr ⟨r_X8_init_74, fun _ h => absurd h List.not_mem_nil⟩⟩⟩⟩⟩⟩⟩⟩⟩⟩⟩⟩⟩⟩⟩⟩⟩⟩⟩⟩⟩⟩⟩⟩⟩⟩⟩⟩⟩⟩⟩⟩⟩⟩⟩⟩⟩⟩⟩⟩
set_option maxRecDepth 100000 in
theorem tq_X8_init_0 : tf_X8_init_0 = tl_X8_init_0.map (fun q => (q.1, stepOf NPf md_X8_init q.2)) := rfl
set_option maxRecDepth 100000 in
theorem ok_X8_init_1 : ∀ q ∈ tl_X8_init_1, IOK WB AD SR FW TB md_X8_init q.1 q.2 := List.forall_mem_cons.mpr ⟨r_X8_init_75, List.forall_mem_cons.mpr ⟨r_X8_init_78, List.forall_mem_cons.mpr ⟨r_X8_init_79, List.forall_mem_cons.mpr ⟨r_X8_init_80, List.forall_mem_cons.mpr ⟨r_X8_init_81, List.forall_mem_cons.mpr ⟨r_X8_init_84, List.forall_mem_cons.mpr ⟨r_X8_init_87, fun _ h => absurd h List.not_mem_nil⟩⟩⟩⟩⟩⟩⟩
set_option maxRecDepth 100000 in
theorem tq_X8_init_1 : tf_X8_init_1 = tl_X8_init_1.map (fun q => (q.1, stepOf NPf md_X8_init q.2)) := rfl
theorem ro_X8_init : RowsOK (md_X8_init, tl_X8_init) tf_X8_init := rows_app ⟨tq_X8_init_0, ok_X8_init_0⟩ (⟨tq_X8_init_1, ok_X8_init_1⟩)
theorem r_X17_isIn_0 : IOK WB AD SR FW TB md_X17_isIn 0 (.iload_n 0, 0, 0, 0, []) := io_plain (by decide +kernel) rfl
theorem r_X17_isIn_1 : IOK WB AD SR FW TB md_X17_isIn 1 (.iload_n 1, 0, 0, 0, []) := io_plain (by decide +kernel) rfl
theorem r_X17_isIn_2 : IOK WB AD SR FW TB md_X17_isIn 2 (.if_icmp .lt 12, 0, 0, 0, []) := io_plain (by decide +kernel) rfl
theorem r_X17_isIn_5 : IOK WB AD SR FW TB md_X17_isIn 5 (.iload_n 0, 0, 0, 0, []) := io_plain (by decide +kernel) rfl
theorem r_X17_isIn_6 : IOK WB AD SR FW TB md_X17_isIn 6 (.iload_n 2, 0, 0, 0, []) := io_plain (by decide +kernel) rfl
theorem r_X17_isIn_7 : IOK WB AD SR FW TB md_X17_isIn 7 (.if_icmp .gt 7, 0, 0, 0, []) := io_plain (by decide +kernel) rfl
theorem r_X17_isIn_10 : IOK WB AD SR FW TB md_X17_isIn 10 (.iconst 1, 0, 0, 0, []) := io_plain (by decide +kernel) rfl
theorem r_X17_isIn_11 : IOK WB AD SR FW TB md_X17_isIn 11 (.goto 4, 0, 0, 0, []) := io_plain (by decide +kernel) rfl
theorem r_X17_isIn_15 : IOK WB AD SR FW TB md_X17_isIn 15 (.ireturn, 0, 0, 0, []) := io_plain (by decide +kernel) rfl
set_option maxRecDepth 100000 in
theorem ok_X17_isIn_0 : ∀ q ∈ tl_X17_isIn, IOK WB AD SR FW TB md_X17_isIn q.1 q.2 := List.forall_mem_cons.mpr ⟨r_X17_isIn_0, List.forall_mem_cons.mpr ⟨r_X17_isIn_1, List.forall_mem_cons.mpr ⟨r_X17_isIn_2, List.forall_mem_cons.mpr ⟨r_X17_isIn_5, List.forall_mem_cons.mpr ⟨r_X17_isIn_6, List.forall_mem_cons.mpr ⟨r_X17_isIn_7, List.forall_mem_cons.mpr ⟨r_X17_isIn_10, List.forall_mem_cons.mpr ⟨r_X17_isIn_11, List.forall_mem_cons.mpr ⟨r_X17_isIn_15, fun _ h => absurd h List.not_mem_nil⟩⟩⟩⟩⟩⟩⟩⟩⟩
set_option maxRecDepth 100000 in
theorem tq_X17_isIn_0 : tf_X17_isIn = tl_X17_isIn.map (fun q => (q.1, stepOf NPf md_X17_isIn q.2)) := rfl
theorem ro_X17_isIn : RowsOK (md_X17_isIn, tl_X17_isIn) tf_X17_isIn := ⟨tq_X17_isIn_0, ok_X17_isIn_0⟩
theorem r_L_apply_0 : IOK WB AD SR FW TB md_L_apply 0 (.aload_n 2, 0, 0, 0, []) := io_plain (by decide +kernel) rfl
theorem r_L_apply_1 : IOK WB AD SR FW TB md_L_apply 1 (.iconst 0, 0, 0, 0, []) := io_plain (by decide +kernel) rfl
theorem r_L_apply_2 : IOK WB AD SR FW TB md_L_apply 2 (.aload_n 0, 0, 0, 0, []) := io_plain (by decide +kernel) rfl
theorem r_L_apply_3 : IOK WB AD SR FW TB md_L_apply 3 (.iload_n 1, 0, 0, 0, []) := io_plain (by decide +kernel) rfl
theorem r_L_apply_4 : IOK WB AD SR FW TB md_L_apply 4 (.invokevirtual 39, 47, 11, 0, []) := io_virt (by decide +kernel) tb_X10_apply (Or.inl (wb_5 136 rfl rfl)) in_X10_apply se_X10_apply ⟨_, rfl, rfl⟩ pr_X10_apply (by decide)
theorem r_L_apply_7 : IOK WB AD SR FW TB md_L_apply 7 (.i2l, 0, 0, 0, []) := io_plain (by decide +kernel) rfl
theorem r_L_apply_8 : IOK WB AD SR FW TB md_L_apply 8 (.lastore, 0, 0, 0, []) := io_plain (by decide +kernel) rfl
theorem r_L_apply_9 : IOK WB AD SR FW TB md_L_apply 9 (.goto 9, 0, 0, 0, []) := io_plain (by decide +kernel) rfl
theorem r_L_apply_18 : IOK WB AD SR FW TB md_L_apply 18 (.iconst 0, 0, 0, 0, []) := io_plain (by decide +kernel) rfl
theorem r_L_apply_19 : IOK WB AD SR FW TB md_L_apply 19 (.ireturn, 0, 0, 0, []) := io_plain (by decide +kernel) rfl
set_option maxRecDepth 100000 in
theorem ok_L_apply_0 : ∀ q ∈ tl_L_apply, IOK WB AD SR FW TB md_L_apply q.1 q.2 := List.forall_mem_cons.mpr ⟨r_L_apply_0, List.forall_mem_cons.mpr ⟨r_L_apply_1, List.forall_mem_cons.mpr ⟨r_L_apply_2, List.forall_mem_cons.mpr ⟨r_L_apply_3, List.forall_mem_cons.mpr ⟨r_L_apply_4, List.forall_mem_cons.mpr ⟨r_L_apply_7, List.forall_mem_cons.mpr ⟨r_L_apply_8, List.forall_mem_cons.mpr ⟨r_L_apply_9, List.forall_mem_cons.mpr ⟨r_L_apply_18, List.forall_mem_cons.mpr ⟨r_L_apply_19, fun _ h => absurd h List.not_mem_nil⟩⟩⟩⟩⟩⟩⟩⟩⟩⟩
set_option maxRecDepth 100000 in
theorem tq_L_apply_0 : tf_L_apply = tl_L_apply.map (fun q => (q.1, stepOf NPf md_L_apply q.2)) := rfl
theorem ro_L_apply : RowsOK (md_L_apply, tl_L_apply) tf_L_apply := ⟨tq_L_apply_0, ok_L_apply_0⟩
theorem r_X17_pop_0 : IOK WB AD SR FW TB md_X17_pop 0 (.aload_n 0, 0, 0, 0, []) := io_plain (by decide +kernel) rfl
theorem r_X17_pop_1 : IOK WB AD SR FW TB md_X17_pop 1 (.getfield 44, 18, 13, 2, []) := io_get (by decide +kernel) fo_RX17_44
theorem r_X17_pop_4 : IOK WB AD SR FW TB md_X17_pop 4 (.aload_n 0, 0, 0, 0, []) := io_plain (by decide +kernel) rfl
theorem r_X17_pop_5 : IOK WB AD SR FW TB md_X17_pop 5 (.getfield 44, 18, 13, 2, []) := io_get (by decide +kernel) fo_RX17_44
theorem r_X17_pop_8 : IOK WB AD SR FW TB md_X17_pop 8 (.invokeinterface 271 1, 24, 0, 0, []) := io_face (by decide +kernel) tb_Jx4a65c_size_8abf5 (List.mem_of_getElem? (i := 0) rfl) (wb_8 32 rfl rfl) in_Jx4a65c_size_8abf5 (wb_8 35 rfl rfl) rfl rfl rfl pr_Jx4a65c_size_8abf5 (by decide)
theorem r_X17_pop_13 : IOK WB AD SR FW TB md_X17_pop 13 (.iconst 1, 0, 0, 0, []) := io_plain (by decide +kernel) rfl
theorem r_X17_pop_14 : IOK WB AD SR FW TB md_X17_pop 14 (.isub, 0, 0, 0, []) := io_plain (by decide +kernel) rfl
theorem r_X17_pop_15 : IOK WB AD SR FW TB md_X17_pop 15 (.invokeinterface 348 2, 59, 0, 0, []) := io_face (by decide +kernel) tb_Jx4a65c_remove_915e3 (List.mem_of_getElem? (i := 3) rfl) (wb_8 41 rfl rfl) in_Jx4a65c_remove_915e3 (wb_8 44 rfl rfl) rfl rfl rfl pr_Jx4a65c_remove_915e3 (by decide)
theorem r_X17_pop_20 : IOK WB AD SR FW TB md_X17_pop 20 (.checkcast 48, 17, 0, 0, []) := io_cast (by decide +kernel) ⟨_, rfl, (wb_7 72 rfl rfl)⟩
theorem r_X17_pop_23 : IOK WB AD SR FW TB md_X17_pop 23 (.areturn, 0, 0, 0, []) := io_aret (by decide +kernel) rfl
set_option maxRecDepth 100000 in
theorem ok_X17_pop_0 : ∀ q ∈ tl_X17_pop, IOK WB AD SR FW TB md_X17_pop q.1 q.2 := List.forall_mem_cons.mpr ⟨r_X17_pop_0, List.forall_mem_cons.mpr ⟨r_X17_pop_1, List.forall_mem_cons.mpr ⟨r_X17_pop_4, List.forall_mem_cons.mpr ⟨r_X17_pop_5, List.forall_mem_cons.mpr ⟨r_X17_pop_8, List.forall_mem_cons.mpr ⟨r_X17_pop_13, List.forall_mem_cons.mpr ⟨r_X17_pop_14, List.forall_mem_cons.mpr ⟨r_X17_pop_15, List.forall_mem_cons.mpr ⟨r_X17_pop_20, List.forall_mem_cons.mpr ⟨r_X17_pop_23, fun _ h => absurd h List.not_mem_nil⟩⟩⟩⟩⟩⟩⟩⟩⟩⟩
set_option maxRecDepth 100000 in
theorem tq_X17_pop_0 : tf_X17_pop = tl_X17_pop.map (fun q => (q.1, stepOf NPf md_X17_pop q.2)) := rfl
theorem ro_X17_pop : RowsOK (md_X17_pop, tl_X17_pop) tf_X17_pop := ⟨tq_X17_pop_0, ok_X17_pop_0⟩
theorem r_X7_hasOperator_0 : IOK WB AD SR FW TB md_X7_hasOperator 0 (.iload_n 1, 0, 0, 0, []) := io_plain (by decide +kernel) rfl
theorem r_X7_hasOperator_1 : IOK WB AD SR FW TB md_X7_hasOperator 1 (.ifCond .lt 15, 0, 0, 0, []) := io_plain (by decide +kernel) rfl
theorem r_X7_hasOperator_4 : IOK WB AD SR FW TB md_X7_hasOperator 4 (.iload_n 1, 0, 0, 0, []) := io_plain (by decide +kernel) rfl
theorem r_X7_hasOperator_5 : IOK WB AD SR FW TB md_X7_hasOperator 5 (.aload_n 0, 0, 0, 0, []) := io_plain (by decide +kernel) rfl
theorem r_X7_hasOperator_6 : IOK WB AD SR FW TB md_X7_hasOperator 6 (.getfield 49, 8, 1, 0, []) := io_get (by decide +kernel) fo_RX7_49
theorem r_X7_hasOperator_9 : IOK WB AD SR FW TB md_X7_hasOperator 9 (.if_icmp .ge 7, 0, 0, 0, []) := io_plain (by decide +kernel) rfl
theorem r_X7_hasOperator_12 : IOK WB AD SR FW TB md_X7_hasOperator 12 (.iconst 1, 0, 0, 0, []) := io_plain (by decide +kernel) rfl
theorem r_X7_hasOperator_13 : IOK WB AD SR FW TB md_X7_hasOperator 13 (.goto 4, 0, 0, 0, []) := io_plain (by decide +kernel) rfl
theorem r_X7_hasOperator_17 : IOK WB AD SR FW TB md_X7_hasOperator 17 (.ireturn, 0, 0, 0, []) := io_plain (by decide +kernel) rfl
set_option maxRecDepth 100000 in
theorem ok_X7_hasOperator_0 : ∀ q ∈ tl_X7_hasOperator, IOK WB AD SR FW TB md_X7_hasOperator q.1 q.2 := List.forall_mem_cons.mpr ⟨r_X7_hasOperator_0, List.forall_mem_cons.mpr ⟨r_X7_hasOperator_1, List.forall_mem_cons.mpr ⟨r_X7_hasOperator_4, List.forall_mem_cons.mpr ⟨r_X7_hasOperator_5, List.forall_mem_cons.mpr ⟨r_X7_hasOperator_6, List.forall_mem_cons.mpr ⟨r_X7_hasOperator_9, List.forall_mem_cons.mpr ⟨r_X7_hasOperator_12, List.forall_mem_cons.mpr ⟨r_X7_hasOperator_13, List.forall_mem_cons.mpr ⟨r_X7_hasOperator_17, fun _ h => absurd h List.not_mem_nil⟩⟩⟩⟩⟩⟩⟩⟩⟩
set_option maxRecDepth 100000 in
theorem tq_X7_hasOperator_0 : tf_X7_hasOperator = tl_X7_hasOperator.map (fun q => (q.1, stepOf NPf md_X7_hasOperator q.2)) := rfl
theorem ro_X7_hasOperator : RowsOK (md_X7_hasOperator, tl_X7_hasOperator) tf_X7_hasOperator := ⟨tq_X7_hasOperator_0, ok_X7_hasOperator_0⟩
theorem r_X7_init_0 : IOK WB AD SR FW TB md_X7_init 0 (.aload_n 0, 0, 0, 0, []) := io_plain (by decide +kernel) rfl
theorem r_X7_init_1 : IOK WB AD SR FW TB md_X7_init 1 (.invokespecial 3, 1000, 0, 0, []) := io_obj (by decide +kernel) (wb_1 48 rfl rfl) ob_1 ob_2
theorem r_X7_init_4 : IOK WB AD SR FW TB md_X7_init 4 (.aload_n 0, 0, 0, 0, []) := io_plain (by decide +kernel) rfl
theorem r_X7_init_5 : IOK WB AD SR FW TB md_X7_init 5 (.bipush 9, 0, 0, 0, []) := io_plain (by decide +kernel) rfl
theorem r_X7_init_7 : IOK WB AD SR FW TB md_X7_init 7 (.newarray .int, 0, 0, 0, []) := io_newa (by decide +kernel) (Or.inl ⟨rfl, rfl⟩) ac_int
theorem r_X7_init_9 : IOK WB AD SR FW TB md_X7_init 9 (.putfield 9, 8, 2, 2, []) := io_put (by decide +kernel) fo_RX7_9 po_RX7_1_8_2_2
theorem r_X7_init_12 : IOK WB AD SR FW TB md_X7_init 12 (.aload_n 0, 0, 0, 0, []) := io_plain (by decide +kernel) rfl
theorem r_X7_init_13 : IOK WB AD SR FW TB md_X7_init 13 (.bipush 10, 0, 0, 0, []) := io_plain (by decide +kernel) rfl
theorem r_X7_init_15 : IOK WB AD SR FW TB md_X7_init 15 (.newarray .int, 0, 0, 0, []) := io_newa (by decide +kernel) (Or.inl ⟨rfl, rfl⟩) ac_int
theorem r_X7_init_17 : IOK WB AD SR FW TB md_X7_init 17 (.putfield 15, 8, 3, 2, []) := io_put (by decide +kernel) fo_RX7_15 po_RX7_1_8_3_2
theorem r_X7_init_20 : IOK WB AD SR FW TB md_X7_init 20 (.aload_n 0, 0, 0, 0, []) := io_plain (by decide +kernel) rfl
theorem r_X7_init_21 : IOK WB AD SR FW TB md_X7_init 21 (.bipush 16, 0, 0, 0, []) := io_plain (by decide +kernel) rfl
theorem r_X7_init_23 : IOK WB AD SR FW TB md_X7_init 23 (.newarray .int, 0, 0, 0, []) := io_newa (by decide +kernel) (Or.inl ⟨rfl, rfl⟩) ac_int
theorem r_X7_init_25 : IOK WB AD SR FW TB md_X7_init 25 (.putfield 18, 8, 4, 2, []) := io_put (by decide +kernel) fo_RX7_18 po_RX7_1_8_4_2
theorem r_X7_init_28 : IOK WB AD SR FW TB md_X7_init 28 (.aload_n 0, 0, 0, 0, []) := io_plain (by decide +kernel) rfl
theorem r_X7_init_29 : IOK WB AD SR FW TB md_X7_init 29 (.bipush 16, 0, 0, 0, []) := io_plain (by decide +kernel) rfl
theorem r_X7_init_31 : IOK WB AD SR FW TB md_X7_init 31 (.newarray .int, 0, 0, 0, []) := io_newa (by decide +kernel) (Or.inl ⟨rfl, rfl⟩) ac_int
theorem r_X7_init_33 : IOK WB AD SR FW TB md_X7_init 33 (.putfield 21, 8, 5, 2, []) := io_put (by decide +kernel) fo_RX7_21 po_RX7_1_8_5_2
theorem r_X7_init_36 : IOK WB AD SR FW TB md_X7_init 36 (.aload_n 0, 0, 0, 0, []) := io_plain (by decide +kernel) rfl
theorem r_X7_init_37 : IOK WB AD SR FW TB md_X7_init 37 (.bipush 16, 0, 0, 0, []) := io_plain (by decide +kernel) rfl
theorem r_X7_init_39 : IOK WB AD SR FW TB md_X7_init 39 (.newarray .int, 0, 0, 0, []) := io_newa (by decide +kernel) (Or.inl ⟨rfl, rfl⟩) ac_int
theorem r_X7_init_41 : IOK WB AD SR FW TB md_X7_init 41 (.putfield 24, 8, 6, 2, []) := io_put (by decide +kernel) fo_RX7_24 po_RX7_1_8_6_2
theorem r_X7_init_44 : IOK WB AD SR FW TB md_X7_init 44 (.aload_n 0, 0, 0, 0, []) := io_plain (by decide +kernel) rfl
theorem r_X7_init_45 : IOK WB AD SR FW TB md_X7_init 45 (.bipush 16, 0, 0, 0, []) := io_plain (by decide +kernel) rfl
theorem r_X7_init_47 : IOK WB AD SR FW TB md_X7_init 47 (.newarray .int, 0, 0, 0, []) := io_newa (by decide +kernel) (Or.inl ⟨rfl, rfl⟩) ac_int
theorem r_X7_init_49 : IOK WB AD SR FW TB md_X7_init 49 (.putfield 27, 8, 7, 2, []) := io_put (by decide +kernel) fo_RX7_27 po_RX7_1_8_7_2
theorem r_X7_init_52 : IOK WB AD SR FW TB md_X7_init 52 (.aload_n 0, 0, 0, 0, []) := io_plain (by decide +kernel) rfl
theorem r_X7_init_53 : IOK WB AD SR FW TB md_X7_init 53 (.sipush 192, 0, 0, 0, []) := io_plain (by decide +kernel) rfl
theorem r_X7_init_56 : IOK WB AD SR FW TB md_X7_init 56 (.newarray .int, 0, 0, 0, []) := io_newa (by decide +kernel) (Or.inl ⟨rfl, rfl⟩) ac_int
theorem r_X7_init_58 : IOK WB AD SR FW TB md_X7_init 58 (.putfield 30, 8, 8, 2, []) := io_put (by decide +kernel) fo_RX7_30 po_RX7_1_8_8_2
theorem r_X7_init_61 : IOK WB AD SR FW TB md_X7_init 61 (.aload_n 0, 0, 0, 0, []) := io_plain (by decide +kernel) rfl
theorem r_X7_init_62 : IOK WB AD SR FW TB md_X7_init 62 (.bipush 64, 0, 0, 0, []) := io_plain (by decide +kernel) rfl
theorem r_X7_init_64 : IOK WB AD SR FW TB md_X7_init 64 (.newarray .int, 0, 0, 0, []) := io_newa (by decide +kernel) (Or.inl ⟨rfl, rfl⟩) ac_int
theorem r_X7_init_66 : IOK WB AD SR FW TB md_X7_init 66 (.putfield 33, 8, 9, 2, []) := io_put (by decide +kernel) fo_RX7_33 po_RX7_1_8_9_2
theorem r_X7_init_69 : IOK WB AD SR FW TB md_X7_init 69 (.aload_n 0, 0, 0, 0, []) := io_plain (by decide +kernel) rfl
theorem r_X7_init_70 : IOK WB AD SR FW TB md_X7_init 70 (.bipush 16, 0, 0, 0, []) := io_plain (by decide +kernel) rfl
theorem r_X7_init_72 : IOK WB AD SR FW TB md_X7_init 72 (.newarray .int, 0, 0, 0, []) := io_newa (by decide +kernel) (Or.inl ⟨rfl, rfl⟩) ac_int
theorem r_X7_init_74 : IOK WB AD SR FW TB md_X7_init 74 (.putfield 36, 8, 10, 2, []) := io_put (by decide +kernel) fo_RX7_36 po_RX7_1_8_10_2
theorem r_X7_init_77 : IOK WB AD SR FW TB md_X7_init 77 (.iconst 0, 0, 0, 0, []) := io_plain (by decide +kernel) rfl
theorem r_X7_init_78 : IOK WB AD SR FW TB md_X7_init 78 (.istore_n 1, 0, 0, 0, []) := io_plain (by decide +kernel) rfl
theorem r_X7_init_79 : IOK WB AD SR FW TB md_X7_init 79 (.iload_n 1, 0, 0, 0, []) := io_plain (by decide +kernel) rfl
theorem r_X7_init_80 : IOK WB AD SR FW TB md_X7_init 80 (.bipush 8, 0, 0, 0, []) := io_plain (by decide +kernel) rfl
theorem r_X7_init_82 : IOK WB AD SR FW TB md_X7_init 82 (.if_icmp .ge 20, 0, 0, 0, []) := io_plain (by decide +kernel) rfl
theorem r_X7_init_85 : IOK WB AD SR FW TB md_X7_init 85 (.aload_n 0, 0, 0, 0, []) := io_plain (by decide +kernel) rfl
theorem r_X7_init_86 : IOK WB AD SR FW TB md_X7_init 86 (.getfield 9, 8, 2, 2, []) := io_get (by decide +kernel) fo_RX7_9
theorem r_X7_init_89 : IOK WB AD SR FW TB md_X7_init 89 (.iload_n 1, 0, 0, 0, []) := io_plain (by decide +kernel) rfl
theorem r_X7_init_90 : IOK WB AD SR FW TB md_X7_init 90 (.iconst 1, 0, 0, 0, []) := io_plain (by decide +kernel) rfl
theorem r_X7_init_91 : IOK WB AD SR FW TB md_X7_init 91 (.iadd, 0, 0, 0, []) := io_plain (by decide +kernel) rfl
theorem r_X7_init_92 : IOK WB AD SR FW TB md_X7_init 92 (.iconst 1, 0, 0, 0, []) := io_plain (by decide +kernel) rfl
theorem r_X7_init_93 : IOK WB AD SR FW TB md_X7_init 93 (.iload_n 1, 0, 0, 0, []) := io_plain (by decide +kernel) rfl
theorem r_X7_init_94 : IOK WB AD SR FW TB md_X7_init 94 (.ishl, 0, 0, 0, []) := io_plain (by decide +kernel) rfl
theorem r_X7_init_95 : IOK WB AD SR FW TB md_X7_init 95 (.iastore, 0, 0, 0, []) := io_plain (by decide +kernel) rfl
theorem r_X7_init_96 : IOK WB AD SR FW TB md_X7_init 96 (.iinc 1 1, 0, 0, 0, []) := io_plain (by decide +kernel) rfl
theorem r_X7_init_99 : IOK WB AD SR FW TB md_X7_init 99 (.goto (-20), 0, 0, 0, []) := io_plain (by decide +kernel) rfl
theorem r_X7_init_102 : IOK WB AD SR FW TB md_X7_init 102 (.aload_n 0, 0, 0, 0, []) := io_plain (by decide +kernel) rfl
theorem r_X7_init_103 : IOK WB AD SR FW TB md_X7_init 103 (.getfield 33, 8, 9, 2, []) := io_get (by decide +kernel) fo_RX7_33
theorem r_X7_init_106 : IOK WB AD SR FW TB md_X7_init 106 (.iconst 1, 0, 0, 0, []) := io_plain (by decide +kernel) rfl
theorem r_X7_init_107 : IOK WB AD SR FW TB md_X7_init 107 (.invokestatic 39, 9, 0, 0, []) := io_stat (by decide +kernel) tb_J7_fill_53178 (Or.inl (wb_1 49 rfl rfl)) st_J7_fill_53178 pr_J7_fill_53178
theorem r_X7_init_110 : IOK WB AD SR FW TB md_X7_init 110 (.return_, 0, 0, 0, []) := io_void (by decide +kernel) rfl
set_option maxRecDepth 100000 in
theorem ok_X7_init_0 : ∀ q ∈ tl_X7_init_0, IOK WB AD SR FW TB md_X7_init q.1 q.2 := List.forall_mem_cons.mpr ⟨r_X7_init_0, List.forall_mem_cons.mpr ⟨r_X7_init_1, List.forall_mem_cons.mpr ⟨r_X7_init_4, List.forall_mem_cons.mpr ⟨r_X7_init_5, List.forall_mem_cons.mpr ⟨r_X7_init_7, List.forall_mem_cons.mpr ⟨r_X7_init_9, List.forall_mem_cons.mpr ⟨r_X7_init_12, List.forall_mem_cons.mpr ⟨r_X7_init_13, List.forall_mem_cons.mpr ⟨r_X7_init_15, List.forall_mem_cons.mpr ⟨r_X7_init_17, List.forall_mem_cons.mpr ⟨r_X7_init_20, List.forall_mem_cons.mpr ⟨r_X7_init_21, List.forall_mem_cons.mpr ⟨r_X7_init_23, List.forall_mem_cons.mpr ⟨r_X7_init_25, List.forall_mem_cons.mpr ⟨r_X7_init_28, List.forall_mem_cons.mpr ⟨r_X7_init_29, List.forall_mem_cons.mpr ⟨r_X7_init_31, List.forall_mem_cons.mpr ⟨r_X7_init_33, List.forall_mem_cons.mpr ⟨r_X7_init_36, List.forall_mem_cons.mpr ⟨r_X7_init_37, List.forall_mem_cons.mpr ⟨r_X7_init_39, List.forall_mem_cons.mpr ⟨r_X7_init_41, List.forall_mem_cons.mpr ⟨r_X7_init_44, List.forall_mem_cons.mpr ⟨r_X7_init_45, List.forall_mem_cons.mpr ⟨r_X7_init_47, List.forall_mem_cons.mpr ⟨r_X7_init_49, List.forall_mem_cons.mpr ⟨r_X7_init_52, List.forall_mem_cons.mpr ⟨r_X7_init_53, List.forall_mem_cons.mpr ⟨r_X7_init_56, List.forall_mem_cons.mpr ⟨r_X7_init_58, List.forall_mem_cons.mpr ⟨r_X7_init_61, List.forall_mem_cons.mpr ⟨r_X7_init_62, List.forall_mem_cons.mpr ⟨r_X7_init_64, List.forall_mem_cons.mpr ⟨r_X7_init_66, List.forall_mem_cons.mpr ⟨r_X7_init_69, List.forall_mem_cons.mpr ⟨r_X7_init_70, List.forall_mem_cons.mpr ⟨r_X7_init_72, List.forall_mem_cons.mpr ⟨r_X7_init_74, List.forall_mem_cons.mpr ⟨r_X7_init_77, List.forall_mem_cons.mpr ⟨r_X7_init_78, fun _ h => absurd h List.not_mem_nil⟩⟩⟩⟩⟩⟩⟩⟩⟩⟩⟩⟩⟩⟩⟩⟩⟩⟩⟩⟩⟩⟩⟩⟩⟩⟩⟩⟩⟩⟩⟩⟩⟩⟩⟩⟩⟩⟩⟩⟩
set_option maxRecDepth 100000 in
theorem tq_X7_init_0 : tf_X7_init_0 = tl_X7_init_0.map (fun q => (q.1, stepOf NPf md_X7_init q.2)) := rfl
set_option maxRecDepth 100000 in
theorem ok_X7_init_1 : ∀ q ∈ tl_X7_init_1, IOK WB AD SR FW TB md_X7_init q.1 q.2 := List.forall_mem_cons.mpr ⟨r_X7_init_79, List.forall_mem_cons.mpr ⟨r_X7_init_80, List.forall_mem_cons.mpr ⟨r_X7_init_82, List.forall_mem_cons.mpr ⟨r_X7_init_85, List.forall_mem_cons.mpr ⟨r_X7_init_86, List.forall_mem_cons.mpr ⟨r_X7_init_89, List.forall_mem_cons.mpr ⟨r_X7_init_90, List.forall_mem_cons.mpr ⟨r_X7_init_91, List.forall_mem_cons.mpr ⟨r_X7_init_92, List.forall_mem_cons.mpr ⟨r_X7_init_93, List.forall_mem_cons.mpr ⟨r_X7_init_94, List.forall_mem_cons.mpr ⟨r_X7_init_95, List.forall_mem_cons.mpr ⟨r_X7_init_96, List.forall_mem_cons.mpr ⟨r_X7_init_99, List.forall_mem_cons.mpr ⟨r_X7_init_102, List.forall_mem_cons.mpr ⟨r_X7_init_103, List.forall_mem_cons.mpr ⟨r_X7_init_106, List.forall_mem_cons.mpr ⟨r_X7_init_107, List.forall_mem_cons.mpr ⟨r_X7_init_110, fun _ h => absurd h List.not_mem_nil⟩⟩⟩⟩⟩⟩⟩⟩⟩⟩⟩⟩⟩⟩⟩⟩⟩⟩⟩
set_option maxRecDepth 100000 in
theorem tq_X7_init_1 : tf_X7_init_1 = tl_X7_init_1.map (fun q => (q.1, stepOf NPf md_X7_init q.2)) := rfl
theorem ro_X7_init : RowsOK (md_X7_init, tl_X7_init) tf_X7_init := rows_app ⟨tq_X7_init_0, ok_X7_init_0⟩ (⟨tq_X7_init_1, ok_X7_init_1⟩)
theorem r_X10_tell_0 : IOK WB AD SR FW TB md_X10_tell 0 (.iload_n 2, 0, 0, 0, []) := io_plain (by decide +kernel) rfl
theorem r_X10_tell_1 : IOK WB AD SR FW TB md_X10_tell 1 (.ifCond .eq 7, 0, 0, 0, []) := io_plain (by decide +kernel) rfl
theorem r_X10_tell_8 : IOK WB AD SR FW TB md_X10_tell 8 (.iconst 2, 0, 0, 0, []) := io_plain (by decide +kernel) rfl
theorem r_X10_tell_9 : IOK WB AD SR FW TB md_X10_tell 9 (.istore_n 3, 0, 0, 0, []) := io_plain (by decide +kernel) rfl
theorem r_X10_tell_10 : IOK WB AD SR FW TB md_X10_tell 10 (.aload_n 0, 0, 0, 0, []) := io_plain (by decide +kernel) rfl
theorem r_X10_tell_11 : IOK WB AD SR FW TB md_X10_tell 11 (.getfield 160, 11, 8, 0, []) := io_get (by decide +kernel) fo_RX10_160
theorem r_X10_tell_14 : IOK WB AD SR FW TB md_X10_tell 14 (.iload_n 3, 0, 0, 0, []) := io_plain (by decide +kernel) rfl
theorem r_X10_tell_15 : IOK WB AD SR FW TB md_X10_tell 15 (.if_icmp .ge 13, 0, 0, 0, []) := io_plain (by decide +kernel) rfl
theorem r_X10_tell_28 : IOK WB AD SR FW TB md_X10_tell 28 (.aload_n 0, 0, 0, 0, []) := io_plain (by decide +kernel) rfl
theorem r_X10_tell_29 : IOK WB AD SR FW TB md_X10_tell 29 (.getfield 160, 11, 8, 0, []) := io_get (by decide +kernel) fo_RX10_160
theorem r_X10_tell_32 : IOK WB AD SR FW TB md_X10_tell 32 (.iload_n 3, 0, 0, 0, []) := io_plain (by decide +kernel) rfl
theorem r_X10_tell_33 : IOK WB AD SR FW TB md_X10_tell 33 (.isub, 0, 0, 0, []) := io_plain (by decide +kernel) rfl
theorem r_X10_tell_34 : IOK WB AD SR FW TB md_X10_tell 34 (.istore 4, 0, 0, 0, []) := io_plain (by decide +kernel) rfl
theorem r_X10_tell_36 : IOK WB AD SR FW TB md_X10_tell 36 (.aload_n 0, 0, 0, 0, []) := io_plain (by decide +kernel) rfl
theorem r_X10_tell_37 : IOK WB AD SR FW TB md_X10_tell 37 (.getfield 21, 11, 1, 2, []) := io_get (by decide +kernel) fo_RX10_21
theorem r_X10_tell_40 : IOK WB AD SR FW TB md_X10_tell 40 (.iload 4, 0, 0, 0, []) := io_plain (by decide +kernel) rfl
theorem r_X10_tell_42 : IOK WB AD SR FW TB md_X10_tell 42 (.invokestatic 176, 68, 11, 0, []) := io_stat (by decide +kernel) tb_X10_stackAt (Or.inl (wb_5 129 rfl rfl)) st_X10_stackAt pr_X10_stackAt
theorem r_X10_tell_45 : IOK WB AD SR FW TB md_X10_tell 45 (.invokevirtual 252, 101, 9, 0, []) := io_virt (by decide +kernel) tb_X8_canBeLeft (Or.inl (wb_5 234 rfl rfl)) in_X8_canBeLeft se_X8_canBeLeft ⟨_, rfl, rfl⟩ pr_X8_canBeLeft (by decide)
theorem r_X10_tell_48 : IOK WB AD SR FW TB md_X10_tell 48 (.ifCond .ne 13, 0, 0, 0, []) := io_plain (by decide +kernel) rfl
theorem r_X10_tell_61 : IOK WB AD SR FW TB md_X10_tell 61 (.iconst 0, 0, 0, 0, []) := io_plain (by decide +kernel) rfl
theorem r_X10_tell_62 : IOK WB AD SR FW TB md_X10_tell 62 (.istore 5, 0, 0, 0, []) := io_plain (by decide +kernel) rfl
theorem r_X10_tell_64 : IOK WB AD SR FW TB md_X10_tell 64 (.iconst 1, 0, 0, 0, []) := io_plain (by decide +kernel) rfl
theorem r_X10_tell_65 : IOK WB AD SR FW TB md_X10_tell 65 (.istore 6, 0, 0, 0, []) := io_plain (by decide +kernel) rfl
theorem r_X10_tell_67 : IOK WB AD SR FW TB md_X10_tell 67 (.iload 6, 0, 0, 0, []) := io_plain (by decide +kernel) rfl
theorem r_X10_tell_69 : IOK WB AD SR FW TB md_X10_tell 69 (.iload_n 3, 0, 0, 0, []) := io_plain (by decide +kernel) rfl
theorem r_X10_tell_70 : IOK WB AD SR FW TB md_X10_tell 70 (.if_icmp .ge 44, 0, 0, 0, []) := io_plain (by decide +kernel) rfl
theorem r_X10_tell_73 : IOK WB AD SR FW TB md_X10_tell 73 (.iload 5, 0, 0, 0, []) := io_plain (by decide +kernel) rfl
theorem r_X10_tell_75 : IOK WB AD SR FW TB md_X10_tell 75 (.aload_n 0, 0, 0, 0, []) := io_plain (by decide +kernel) rfl
theorem r_X10_tell_76 : IOK WB AD SR FW TB md_X10_tell 76 (.getfield 21, 11, 1, 2, []) := io_get (by decide +kernel) fo_RX10_21
theorem r_X10_tell_79 : IOK WB AD SR FW TB md_X10_tell 79 (.iload 4, 0, 0, 0, []) := io_plain (by decide +kernel) rfl
theorem r_X10_tell_81 : IOK WB AD SR FW TB md_X10_tell 81 (.iload 6, 0, 0, 0, []) := io_plain (by decide +kernel) rfl
theorem r_X10_tell_83 : IOK WB AD SR FW TB md_X10_tell 83 (.iadd, 0, 0, 0, []) := io_plain (by decide +kernel) rfl
theorem r_X10_tell_84 : IOK WB AD SR FW TB md_X10_tell 84 (.invokestatic 176, 68, 11, 0, []) := io_stat (by decide +kernel) tb_X10_stackAt (Or.inl (wb_5 129 rfl rfl)) st_X10_stackAt pr_X10_stackAt
theorem r_X10_tell_87 : IOK WB AD SR FW TB md_X10_tell 87 (.invokevirtual 232, 23, 9, 0, []) := io_virt (by decide +kernel) tb_X8_variablesAt (Or.inl (wb_5 223 rfl rfl)) in_X8_variablesAt se_X8_variablesAt ⟨_, rfl, rfl⟩ pr_X8_variablesAt (by decide)
theorem r_X10_tell_90 : IOK WB AD SR FW TB md_X10_tell 90 (.aload_n 0, 0, 0, 0, []) := io_plain (by decide +kernel) rfl
theorem r_X10_tell_91 : IOK WB AD SR FW TB md_X10_tell 91 (.getfield 21, 11, 1, 2, []) := io_get (by decide +kernel) fo_RX10_21
theorem r_X10_tell_94 : IOK WB AD SR FW TB md_X10_tell 94 (.iload 4, 0, 0, 0, []) := io_plain (by decide +kernel) rfl
theorem r_X10_tell_96 : IOK WB AD SR FW TB md_X10_tell 96 (.invokestatic 176, 68, 11, 0, []) := io_stat (by decide +kernel) tb_X10_stackAt (Or.inl (wb_5 129 rfl rfl)) st_X10_stackAt pr_X10_stackAt
theorem r_X10_tell_99 : IOK WB AD SR FW TB md_X10_tell 99 (.invokevirtual 232, 23, 9, 0, []) := io_virt (by decide +kernel) tb_X8_variablesAt (Or.inl (wb_5 223 rfl rfl)) in_X8_variablesAt se_X8_variablesAt ⟨_, rfl, rfl⟩ pr_X8_variablesAt (by decide)
theorem r_X10_tell_102 : IOK WB AD SR FW TB md_X10_tell 102 (.iconst (-1), 0, 0, 0, []) := io_plain (by decide +kernel) rfl
theorem r_X10_tell_103 : IOK WB AD SR FW TB md_X10_tell 103 (.ixor, 0, 0, 0, []) := io_plain (by decide +kernel) rfl
theorem r_X10_tell_104 : IOK WB AD SR FW TB md_X10_tell 104 (.iand, 0, 0, 0, []) := io_plain (by decide +kernel) rfl
theorem r_X10_tell_105 : IOK WB AD SR FW TB md_X10_tell 105 (.ior, 0, 0, 0, []) := io_plain (by decide +kernel) rfl
theorem r_X10_tell_106 : IOK WB AD SR FW TB md_X10_tell 106 (.istore 5, 0, 0, 0, []) := io_plain (by decide +kernel) rfl
theorem r_X10_tell_108 : IOK WB AD SR FW TB md_X10_tell 108 (.iinc 6 1, 0, 0, 0, []) := io_plain (by decide +kernel) rfl
theorem r_X10_tell_111 : IOK WB AD SR FW TB md_X10_tell 111 (.goto (-44), 0, 0, 0, []) := io_plain (by decide +kernel) rfl
theorem r_X10_tell_114 : IOK WB AD SR FW TB md_X10_tell 114 (.iload 5, 0, 0, 0, []) := io_plain (by decide +kernel) rfl
theorem r_X10_tell_116 : IOK WB AD SR FW TB md_X10_tell 116 (.ifCond .eq 14, 0, 0, 0, []) := io_plain (by decide +kernel) rfl
theorem r_X10_tell_130 : IOK WB AD SR FW TB md_X10_tell 130 (.iload_n 1, 0, 0, 0, []) := io_plain (by decide +kernel) rfl
theorem r_X10_tell_131 : IOK WB AD SR FW TB md_X10_tell 131 (.ifCond .eq 18, 0, 0, 0, []) := io_plain (by decide +kernel) rfl
theorem r_X10_tell_149 : IOK WB AD SR FW TB md_X10_tell 149 (.aload_n 0, 0, 0, 0, []) := io_plain (by decide +kernel) rfl
theorem r_X10_tell_150 : IOK WB AD SR FW TB md_X10_tell 150 (.getfield 30, 11, 2, 2, []) := io_get (by decide +kernel) fo_RX10_30
theorem r_X10_tell_153 : IOK WB AD SR FW TB md_X10_tell 153 (.getfield 262, 3, 2, 0, []) := io_get (by decide +kernel) fo_RX10_262
theorem r_X10_tell_156 : IOK WB AD SR FW TB md_X10_tell 156 (.bipush 12, 0, 0, 0, []) := io_plain (by decide +kernel) rfl
theorem r_X10_tell_158 : IOK WB AD SR FW TB md_X10_tell 158 (.if_icmp .lt 14, 0, 0, 0, []) := io_plain (by decide +kernel) rfl
theorem r_X10_tell_172 : IOK WB AD SR FW TB md_X10_tell 172 (.iload_n 1, 0, 0, 0, []) := io_plain (by decide +kernel) rfl
theorem r_X10_tell_173 : IOK WB AD SR FW TB md_X10_tell 173 (.ifCond .eq 16, 0, 0, 0, []) := io_plain (by decide +kernel) rfl
theorem r_X10_tell_189 : IOK WB AD SR FW TB md_X10_tell 189 (.aload_n 0, 0, 0, 0, []) := io_plain (by decide +kernel) rfl
theorem r_X10_tell_190 : IOK WB AD SR FW TB md_X10_tell 190 (.getfield 30, 11, 2, 2, []) := io_get (by decide +kernel) fo_RX10_30
theorem r_X10_tell_193 : IOK WB AD SR FW TB md_X10_tell 193 (.getfield 262, 3, 2, 0, []) := io_get (by decide +kernel) fo_RX10_262
theorem r_X10_tell_196 : IOK WB AD SR FW TB md_X10_tell 196 (.istore 6, 0, 0, 0, []) := io_plain (by decide +kernel) rfl
theorem r_X10_tell_198 : IOK WB AD SR FW TB md_X10_tell 198 (.iconst 0, 0, 0, 0, []) := io_plain (by decide +kernel) rfl
theorem r_X10_tell_199 : IOK WB AD SR FW TB md_X10_tell 199 (.istore 7, 0, 0, 0, []) := io_plain (by decide +kernel) rfl
theorem r_X10_tell_201 : IOK WB AD SR FW TB md_X10_tell 201 (.iload 7, 0, 0, 0, []) := io_plain (by decide +kernel) rfl
theorem r_X10_tell_203 : IOK WB AD SR FW TB md_X10_tell 203 (.iload_n 3, 0, 0, 0, []) := io_plain (by decide +kernel) rfl
theorem r_X10_tell_204 : IOK WB AD SR FW TB md_X10_tell 204 (.if_icmp .ge 35, 0, 0, 0, []) := io_plain (by decide +kernel) rfl
theorem r_X10_tell_207 : IOK WB AD SR FW TB md_X10_tell 207 (.aload_n 0, 0, 0, 0, []) := io_plain (by decide +kernel) rfl
theorem r_X10_tell_208 : IOK WB AD SR FW TB md_X10_tell 208 (.getfield 21, 11, 1, 2, []) := io_get (by decide +kernel) fo_RX10_21
theorem r_X10_tell_211 : IOK WB AD SR FW TB md_X10_tell 211 (.iload 4, 0, 0, 0, []) := io_plain (by decide +kernel) rfl
theorem r_X10_tell_213 : IOK WB AD SR FW TB md_X10_tell 213 (.iload 7, 0, 0, 0, []) := io_plain (by decide +kernel) rfl
theorem r_X10_tell_215 : IOK WB AD SR FW TB md_X10_tell 215 (.iadd, 0, 0, 0, []) := io_plain (by decide +kernel) rfl
theorem r_X10_tell_216 : IOK WB AD SR FW TB md_X10_tell 216 (.invokestatic 176, 68, 11, 0, []) := io_stat (by decide +kernel) tb_X10_stackAt (Or.inl (wb_5 129 rfl rfl)) st_X10_stackAt pr_X10_stackAt
theorem r_X10_tell_219 : IOK WB AD SR FW TB md_X10_tell 219 (.aload_n 0, 0, 0, 0, []) := io_plain (by decide +kernel) rfl
theorem r_X10_tell_220 : IOK WB AD SR FW TB md_X10_tell 220 (.getfield 30, 11, 2, 2, []) := io_get (by decide +kernel) fo_RX10_30
theorem r_X10_tell_223 : IOK WB AD SR FW TB md_X10_tell 223 (.iload 6, 0, 0, 0, []) := io_plain (by decide +kernel) rfl
theorem r_X10_tell_225 : IOK WB AD SR FW TB md_X10_tell 225 (.iload 7, 0, 0, 0, []) := io_plain (by decide +kernel) rfl
theorem r_X10_tell_227 : IOK WB AD SR FW TB md_X10_tell 227 (.invokevirtual 267, 39, 3, 0, []) := io_virt (by decide +kernel) tb_X2_partAt (Or.inl (wb_5 238 rfl rfl)) in_X2_partAt se_X2_partAt ⟨_, rfl, rfl⟩ pr_X2_partAt (by decide)
theorem r_X10_tell_230 : IOK WB AD SR FW TB md_X10_tell 230 (.invokevirtual 193, 66, 9, 0, []) := io_virt (by decide +kernel) tb_X8_store (Or.inl (wb_5 132 rfl rfl)) in_X8_store se_X8_store ⟨_, rfl, rfl⟩ pr_X8_store (by decide)
theorem r_X10_tell_233 : IOK WB AD SR FW TB md_X10_tell 233 (.iinc 7 1, 0, 0, 0, []) := io_plain (by decide +kernel) rfl
theorem r_X10_tell_236 : IOK WB AD SR FW TB md_X10_tell 236 (.goto (-35), 0, 0, 0, []) := io_plain (by decide +kernel) rfl
theorem r_X10_tell_239 : IOK WB AD SR FW TB md_X10_tell 239 (.aload_n 0, 0, 0, 0, []) := io_plain (by decide +kernel) rfl
theorem r_X10_tell_240 : IOK WB AD SR FW TB md_X10_tell 240 (.iload 4, 0, 0, 0, []) := io_plain (by decide +kernel) rfl
theorem r_X10_tell_242 : IOK WB AD SR FW TB md_X10_tell 242 (.putfield 160, 11, 8, 0, []) := io_put (by decide +kernel) fo_RX10_160 po_RX10_0_11_8_0
theorem r_X10_tell_245 : IOK WB AD SR FW TB md_X10_tell 245 (.aload_n 0, 0, 0, 0, []) := io_plain (by decide +kernel) rfl
theorem r_X10_tell_246 : IOK WB AD SR FW TB md_X10_tell 246 (.getfield 30, 11, 2, 2, []) := io_get (by decide +kernel) fo_RX10_30
theorem r_X10_tell_249 : IOK WB AD SR FW TB md_X10_tell 249 (.iload_n 1, 0, 0, 0, []) := io_plain (by decide +kernel) rfl
theorem r_X10_tell_250 : IOK WB AD SR FW TB md_X10_tell 250 (.iload_n 2, 0, 0, 0, []) := io_plain (by decide +kernel) rfl
theorem r_X10_tell_251 : IOK WB AD SR FW TB md_X10_tell 251 (.invokevirtual 270, 90, 3, 0, []) := io_virt (by decide +kernel) tb_X2_add (Or.inl (wb_5 239 rfl rfl)) in_X2_add se_X2_add ⟨_, rfl, rfl⟩ pr_X2_add (by decide)
theorem r_X10_tell_254 : IOK WB AD SR FW TB md_X10_tell 254 (.ireturn, 0, 0, 0, []) := io_plain (by decide +kernel) rfl
set_option maxRecDepth 100000 in
theorem ok_X10_tell_0 : ∀ q ∈ tl_X10_tell_0, IOK WB AD SR FW TB md_X10_tell q.1 q.2 := List.forall_mem_cons.mpr ⟨r_X10_tell_0, List.forall_mem_cons.mpr ⟨r_X10_tell_1, List.forall_mem_cons.mpr ⟨r_X10_tell_8, List.forall_mem_cons.mpr ⟨r_X10_tell_9, List.forall_mem_cons.mpr ⟨r_X10_tell_10, List.forall_mem_cons.mpr ⟨r_X10_tell_11, List.forall_mem_cons.mpr ⟨r_X10_tell_14, List.forall_mem_cons.mpr ⟨r_X10_tell_15, List.forall_mem_cons.mpr ⟨r_X10_tell_28, List.forall_mem_cons.mpr ⟨r_X10_tell_29, List.forall_mem_cons.mpr ⟨r_X10_tell_32, List.forall_mem_cons.mpr ⟨r_X10_tell_33, List.forall_mem_cons.mpr ⟨r_X10_tell_34, List.forall_mem_cons.mpr ⟨r_X10_tell_36, List.forall_mem_cons.mpr ⟨r_X10_tell_37, List.forall_mem_cons.mpr ⟨r_X10_tell_40, List.forall_mem_cons.mpr ⟨r_X10_tell_42, List.forall_mem_cons.mpr ⟨r_X10_tell_45, List.forall_mem_cons.mpr ⟨r_X10_tell_48, List.forall_mem_cons.mpr ⟨r_X10_tell_61, List.forall_mem_cons.mpr ⟨r_X10_tell_62, List.forall_mem_cons.mpr ⟨r_X10_tell_64, List.forall_mem_cons.mpr ⟨r_X10_tell_65, List.forall_mem_cons.mpr ⟨r_X10_tell_67, List.forall_mem_cons.mpr ⟨r_X10_tell_69, List.forall_mem_cons.mpr ⟨r_X10_tell_70, List.forall_mem_cons.mpr ⟨r_X10_tell_73, List.forall_mem_cons.mpr ⟨r_X10_tell_75, List.forall_mem_cons.mpr ⟨r_X10_tell_76, List.forall_mem_cons.mpr ⟨r_X10_tell_79, List.forall_mem_cons.mpr ⟨r_X10_tell_81, List.forall_mem_cons.mpr ⟨r_X10_tell_83, List.forall_mem_cons.mpr ⟨r_X10_tell_84, List.forall_mem_cons.mpr ⟨r_X10_tell_87, List.forall_mem_cons.mpr ⟨r_X10_tell_90, List.forall_mem_cons.mpr ⟨r_X10_tell_91, List.forall_mem_cons.mpr ⟨r_X10_tell_94, List.forall_mem_cons.mpr ⟨r_X10_tell_96, List.forall_mem_cons.mpr ⟨r_X10_tell_99, List.forall_mem_cons.mpr ⟨r_X10_tell_102, fun _ h => absurd h List.not_mem_nil⟩⟩⟩⟩⟩⟩⟩⟩⟩⟩⟩⟩⟩⟩⟩⟩⟩⟩⟩⟩⟩⟩⟩⟩⟩⟩⟩⟩⟩⟩⟩⟩⟩⟩⟩⟩⟩⟩⟩⟩
set_option maxRecDepth 100000 in
theorem tq_X10_tell_0 : tf_X10_tell_0 = tl_X10_tell_0.map (fun q => (q.1, stepOf NPf md_X10_tell q.2)) := rfl
set_option maxRecDepth 100000 in
theorem ok_X10_tell_1 : ∀ q ∈ tl_X10_tell_1, IOK WB AD SR FW TB md_X10_tell q.1 q.2 := List.forall_mem_cons.mpr ⟨r_X10_tell_103, List.forall_mem_cons.mpr ⟨r_X10_tell_104, List.forall_mem_cons.mpr ⟨r_X10_tell_105, List.forall_mem_cons.mpr ⟨r_X10_tell_106, List.forall_mem_cons.mpr ⟨r_X10_tell_108, List.forall_mem_cons.mpr ⟨r_X10_tell_111, List.forall_mem_cons.mpr ⟨r_X10_tell_114, List.forall_mem_cons.mpr ⟨r_X10_tell_116, List.forall_mem_cons.mpr ⟨r_X10_tell_130, List.forall_mem_cons.mpr ⟨r_X10_tell_131, List.forall_mem_cons.mpr ⟨r_X10_tell_149, List.forall_mem_cons.mpr ⟨r_X10_tell_150, List.forall_mem_cons.mpr ⟨r_X10_tell_153, List.forall_mem_cons.mpr ⟨r_X10_tell_156, List.forall_mem_cons.mpr ⟨r_X10_tell_158, List.forall_mem_cons.mpr ⟨r_X10_tell_172, List.forall_mem_cons.mpr ⟨r_X10_tell_173, List.forall_mem_cons.mpr ⟨r_X10_tell_189, List.forall_mem_cons.mpr ⟨r_X10_tell_190, List.forall_mem_cons.mpr ⟨r_X10_tell_193, List.forall_mem_cons.mpr ⟨r_X10_tell_196, List.forall_mem_cons.mpr ⟨r_X10_tell_198, List.forall_mem_cons.mpr ⟨r_X10_tell_199, List.forall_mem_cons.mpr ⟨r_X10_tell_201, List.forall_mem_cons.mpr ⟨r_X10_tell_203, List.forall_mem_cons.mpr ⟨r_X10_tell_204, List.forall_mem_cons.mpr ⟨r_X10_tell_207, List.forall_mem_cons.mpr ⟨r_X10_tell_208, List.forall_mem_cons.mpr ⟨r_X10_tell_211, List.forall_mem_cons.mpr ⟨r_X10_tell_213, List.forall_mem_cons.mpr ⟨r_X10_tell_215, List.forall_mem_cons.mpr ⟨r_X10_tell_216, List.forall_mem_cons.mpr ⟨r_X10_tell_219, List.forall_mem_cons.mpr ⟨r_X10_tell_220, List.forall_mem_cons.mpr ⟨r_X10_tell_223, List.forall_mem_cons.mpr ⟨r_X10_tell_225, List.forall_mem_cons.mpr ⟨r_X10_tell_227, List.forall_mem_cons.mpr ⟨r_X10_tell_230, List.forall_mem_cons.mpr ⟨r_X10_tell_233, List.forall_mem_cons.mpr ⟨r_X10_tell_236, fun _ h => absurd h List.not_mem_nil⟩⟩⟩⟩⟩⟩⟩⟩⟩⟩⟩⟩⟩⟩⟩⟩⟩⟩⟩⟩⟩⟩⟩⟩⟩⟩⟩⟩⟩⟩⟩⟩⟩⟩⟩⟩⟩⟩⟩⟩
set_option maxRecDepth 100000 in
theorem tq_X10_tell_1 : tf_X10_tell_1 = tl_X10_tell_1.map (fun q => (q.1, stepOf NPf md_X10_tell q.2)) := rfl
set_option maxRecDepth 100000 in
theorem ok_X10_tell_2 : ∀ q ∈ tl_X10_tell_2, IOK WB AD SR FW TB md_X10_tell q.1 q.2 := List.forall_mem_cons.mpr ⟨r_X10_tell_239, List.forall_mem_cons.mpr ⟨r_X10_tell_240, List.forall_mem_cons.mpr ⟨r_X10_tell_242, List.forall_mem_cons.mpr ⟨r_X10_tell_245, List.forall_mem_cons.mpr ⟨r_X10_tell_246, List.forall_mem_cons.mpr ⟨r_X10_tell_249, List.forall_mem_cons.mpr ⟨r_X10_tell_250, List.forall_mem_cons.mpr ⟨r_X10_tell_251, List.forall_mem_cons.mpr ⟨r_X10_tell_254, fun _ h => absurd h List.not_mem_nil⟩⟩⟩⟩⟩⟩⟩⟩⟩
set_option maxRecDepth 100000 in
theorem tq_X10_tell_2 : tf_X10_tell_2 = tl_X10_tell_2.map (fun q => (q.1, stepOf NPf md_X10_tell q.2)) := rfl
theorem ro_X10_tell : RowsOK (md_X10_tell, tl_X10_tell) tf_X10_tell := rows_app ⟨tq_X10_tell_0, ok_X10_tell_0⟩ (rows_app ⟨tq_X10_tell_1, ok_X10_tell_1⟩ (⟨tq_X10_tell_2, ok_X10_tell_2⟩))
theorem r_X17_tell_0 : IOK WB AD SR FW TB md_X17_tell 0 (.iload_n 2, 0, 0, 0, []) := io_plain (by decide +kernel) rfl
theorem r_X17_tell_1 : IOK WB AD SR FW TB md_X17_tell 1 (.ifCond .eq 7, 0, 0, 0, []) := io_plain (by decide +kernel) rfl
theorem r_X17_tell_8 : IOK WB AD SR FW TB md_X17_tell 8 (.iconst 2, 0, 0, 0, []) := io_plain (by decide +kernel) rfl
theorem r_X17_tell_9 : IOK WB AD SR FW TB md_X17_tell 9 (.istore_n 3, 0, 0, 0, []) := io_plain (by decide +kernel) rfl
theorem r_X17_tell_10 : IOK WB AD SR FW TB md_X17_tell 10 (.aload_n 0, 0, 0, 0, []) := io_plain (by decide +kernel) rfl
theorem r_X17_tell_11 : IOK WB AD SR FW TB md_X17_tell 11 (.getfield 44, 18, 13, 2, []) := io_get (by decide +kernel) fo_RX17_44
theorem r_X17_tell_14 : IOK WB AD SR FW TB md_X17_tell 14 (.invokeinterface 271 1, 24, 0, 0, []) := io_face (by decide +kernel) tb_Jx4a65c_size_8abf5 (List.mem_of_getElem? (i := 0) rfl) (wb_8 32 rfl rfl) in_Jx4a65c_size_8abf5 (wb_8 35 rfl rfl) rfl rfl rfl pr_Jx4a65c_size_8abf5 (by decide)
theorem r_X17_tell_19 : IOK WB AD SR FW TB md_X17_tell 19 (.iload_n 3, 0, 0, 0, []) := io_plain (by decide +kernel) rfl
theorem r_X17_tell_20 : IOK WB AD SR FW TB md_X17_tell 20 (.isub, 0, 0, 0, []) := io_plain (by decide +kernel) rfl
theorem r_X17_tell_21 : IOK WB AD SR FW TB md_X17_tell 21 (.istore 4, 0, 0, 0, []) := io_plain (by decide +kernel) rfl
theorem r_X17_tell_23 : IOK WB AD SR FW TB md_X17_tell 23 (.iload_n 1, 0, 0, 0, []) := io_plain (by decide +kernel) rfl
theorem r_X17_tell_24 : IOK WB AD SR FW TB md_X17_tell 24 (.ifCond .eq 10, 0, 0, 0, []) := io_plain (by decide +kernel) rfl
theorem r_X17_tell_34 : IOK WB AD SR FW TB md_X17_tell 34 (.aload_n 0, 0, 0, 0, []) := io_plain (by decide +kernel) rfl
theorem r_X17_tell_35 : IOK WB AD SR FW TB md_X17_tell 35 (.getfield 54, 18, 15, 2, []) := io_get (by decide +kernel) fo_RX17_54
theorem r_X17_tell_38 : IOK WB AD SR FW TB md_X17_tell 38 (.astore 5, 0, 0, 0, []) := io_plain (by decide +kernel) rfl
theorem r_X17_tell_40 : IOK WB AD SR FW TB md_X17_tell 40 (.aload_n 0, 0, 0, 0, []) := io_plain (by decide +kernel) rfl
theorem r_X17_tell_41 : IOK WB AD SR FW TB md_X17_tell 41 (.iload 4, 0, 0, 0, []) := io_plain (by decide +kernel) rfl
theorem r_X17_tell_43 : IOK WB AD SR FW TB md_X17_tell 43 (.ifCond .lt 24, 0, 0, 0, []) := io_plain (by decide +kernel) rfl
theorem r_X17_tell_46 : IOK WB AD SR FW TB md_X17_tell 46 (.aload 5, 0, 0, 0, []) := io_plain (by decide +kernel) rfl
theorem r_X17_tell_48 : IOK WB AD SR FW TB md_X17_tell 48 (.invokeinterface 271 1, 24, 0, 0, []) := io_face (by decide +kernel) tb_Jx4a65c_size_8abf5 (List.mem_of_getElem? (i := 0) rfl) (wb_8 32 rfl rfl) in_Jx4a65c_size_8abf5 (wb_8 35 rfl rfl) rfl rfl rfl pr_Jx4a65c_size_8abf5 (by decide)
theorem r_X17_tell_53 : IOK WB AD SR FW TB md_X17_tell 53 (.iload_n 1, 0, 0, 0, []) := io_plain (by decide +kernel) rfl
theorem r_X17_tell_54 : IOK WB AD SR FW TB md_X17_tell 54 (.ifCond .eq 8, 0, 0, 0, []) := io_plain (by decide +kernel) rfl
theorem r_X17_tell_62 : IOK WB AD SR FW TB md_X17_tell 62 (.bipush 12, 0, 0, 0, []) := io_plain (by decide +kernel) rfl
theorem r_X17_tell_64 : IOK WB AD SR FW TB md_X17_tell 64 (.if_icmp .ne 7, 0, 0, 0, []) := io_plain (by decide +kernel) rfl
theorem r_X17_tell_71 : IOK WB AD SR FW TB md_X17_tell 71 (.iconst 0, 0, 0, 0, []) := io_plain (by decide +kernel) rfl
theorem r_X17_tell_72 : IOK WB AD SR FW TB md_X17_tell 72 (.putfield 114, 18, 0, 0, []) := io_put (by decide +kernel) fo_RX17_114 po_RX17_0_18_0_0
theorem r_X17_tell_75 : IOK WB AD SR FW TB md_X17_tell 75 (.aload_n 0, 0, 0, 0, []) := io_plain (by decide +kernel) rfl
theorem r_X17_tell_76 : IOK WB AD SR FW TB md_X17_tell 76 (.getfield 114, 18, 0, 0, []) := io_get (by decide +kernel) fo_RX17_114
theorem r_X17_tell_79 : IOK WB AD SR FW TB md_X17_tell 79 (.ifCond .le 5, 0, 0, 0, []) := io_plain (by decide +kernel) rfl
theorem r_X17_tell_84 : IOK WB AD SR FW TB md_X17_tell 84 (.new 254, 14, 0, 0, [2, 2, 2, 2, 2, 2]) := io_new (by decide +kernel) rfl no_RX17_254
theorem r_X17_tell_87 : IOK WB AD SR FW TB md_X17_tell 87 (.dup, 0, 0, 0, []) := io_plain (by decide +kernel) rfl
theorem r_X17_tell_88 : IOK WB AD SR FW TB md_X17_tell 88 (.invokespecial 507, 110, 14, 0, []) := io_spec (by decide +kernel) tb_X13_init (Or.inr ⟨"RuleForgeModel", List.mem_of_getElem? (i := 6) rfl⟩) in_X13_init rfl rfl rfl pr_X13_init (by decide)
theorem r_X17_tell_91 : IOK WB AD SR FW TB md_X17_tell 91 (.astore 6, 0, 0, 0, []) := io_plain (by decide +kernel) rfl
theorem r_X17_tell_93 : IOK WB AD SR FW TB md_X17_tell 93 (.aload 6, 0, 0, 0, []) := io_plain (by decide +kernel) rfl
theorem r_X17_tell_95 : IOK WB AD SR FW TB md_X17_tell 95 (.aload_n 0, 0, 0, 0, []) := io_plain (by decide +kernel) rfl
theorem r_X17_tell_96 : IOK WB AD SR FW TB md_X17_tell 96 (.getfield 44, 18, 13, 2, []) := io_get (by decide +kernel) fo_RX17_44
theorem r_X17_tell_99 : IOK WB AD SR FW TB md_X17_tell 99 (.iload 4, 0, 0, 0, []) := io_plain (by decide +kernel) rfl
theorem r_X17_tell_101 : IOK WB AD SR FW TB md_X17_tell 101 (.invokeinterface 275 2, 51, 0, 0, []) := io_face (by decide +kernel) tb_Jx4a65c_get_915e3 (List.mem_of_getElem? (i := 1) rfl) (wb_8 146 rfl rfl) in_Jx4a65c_get_915e3 (wb_8 149 rfl rfl) rfl rfl rfl pr_Jx4a65c_get_915e3 (by decide)
theorem r_X17_tell_106 : IOK WB AD SR FW TB md_X17_tell 106 (.checkcast 48, 17, 0, 0, []) := io_cast (by decide +kernel) ⟨_, rfl, (wb_7 72 rfl rfl)⟩
theorem r_X17_tell_109 : IOK WB AD SR FW TB md_X17_tell 109 (.putfield 279, 14, 0, 2, []) := io_put (by decide +kernel) fo_RX17_279 po_RX17_0_14_0_2
theorem r_X17_tell_112 : IOK WB AD SR FW TB md_X17_tell 112 (.aload 6, 0, 0, 0, []) := io_plain (by decide +kernel) rfl
theorem r_X17_tell_114 : IOK WB AD SR FW TB md_X17_tell 114 (.aload_n 0, 0, 0, 0, []) := io_plain (by decide +kernel) rfl
theorem r_X17_tell_115 : IOK WB AD SR FW TB md_X17_tell 115 (.getfield 44, 18, 13, 2, []) := io_get (by decide +kernel) fo_RX17_44
theorem r_X17_tell_118 : IOK WB AD SR FW TB md_X17_tell 118 (.iload 4, 0, 0, 0, []) := io_plain (by decide +kernel) rfl
theorem r_X17_tell_120 : IOK WB AD SR FW TB md_X17_tell 120 (.iconst 1, 0, 0, 0, []) := io_plain (by decide +kernel) rfl
theorem r_X17_tell_121 : IOK WB AD SR FW TB md_X17_tell 121 (.iadd, 0, 0, 0, []) := io_plain (by decide +kernel) rfl
theorem r_X17_tell_122 : IOK WB AD SR FW TB md_X17_tell 122 (.invokeinterface 275 2, 51, 0, 0, []) := io_face (by decide +kernel) tb_Jx4a65c_get_915e3 (List.mem_of_getElem? (i := 1) rfl) (wb_8 146 rfl rfl) in_Jx4a65c_get_915e3 (wb_8 149 rfl rfl) rfl rfl rfl pr_Jx4a65c_get_915e3 (by decide)
theorem r_X17_tell_127 : IOK WB AD SR FW TB md_X17_tell 127 (.checkcast 48, 17, 0, 0, []) := io_cast (by decide +kernel) ⟨_, rfl, (wb_7 72 rfl rfl)⟩
theorem r_X17_tell_130 : IOK WB AD SR FW TB md_X17_tell 130 (.putfield 298, 14, 1, 2, []) := io_put (by decide +kernel) fo_RX17_298 po_RX17_0_14_1_2
theorem r_X17_tell_133 : IOK WB AD SR FW TB md_X17_tell 133 (.aload 6, 0, 0, 0, []) := io_plain (by decide +kernel) rfl
theorem r_X17_tell_135 : IOK WB AD SR FW TB md_X17_tell 135 (.iload_n 2, 0, 0, 0, []) := io_plain (by decide +kernel) rfl
theorem r_X17_tell_136 : IOK WB AD SR FW TB md_X17_tell 136 (.ifCond .eq 22, 0, 0, 0, []) := io_plain (by decide +kernel) rfl
theorem r_X17_tell_158 : IOK WB AD SR FW TB md_X17_tell 158 (.aconst_null, 0, 0, 0, []) := io_plain (by decide +kernel) rfl
theorem r_X17_tell_159 : IOK WB AD SR FW TB md_X17_tell 159 (.putfield 253, 14, 2, 2, []) := io_put (by decide +kernel) fo_RX17_253 po_RX17_0_14_2_2
theorem r_X17_tell_162 : IOK WB AD SR FW TB md_X17_tell 162 (.aload 6, 0, 0, 0, []) := io_plain (by decide +kernel) rfl
theorem r_X17_tell_164 : IOK WB AD SR FW TB md_X17_tell 164 (.iload_n 2, 0, 0, 0, []) := io_plain (by decide +kernel) rfl
theorem r_X17_tell_165 : IOK WB AD SR FW TB md_X17_tell 165 (.ifCond .eq 22, 0, 0, 0, []) := io_plain (by decide +kernel) rfl
theorem r_X17_tell_187 : IOK WB AD SR FW TB md_X17_tell 187 (.aconst_null, 0, 0, 0, []) := io_plain (by decide +kernel) rfl
theorem r_X17_tell_188 : IOK WB AD SR FW TB md_X17_tell 188 (.putfield 268, 14, 3, 2, []) := io_put (by decide +kernel) fo_RX17_268 po_RX17_0_14_3_2
theorem r_X17_tell_191 : IOK WB AD SR FW TB md_X17_tell 191 (.aload_n 0, 0, 0, 0, []) := io_plain (by decide +kernel) rfl
theorem r_X17_tell_192 : IOK WB AD SR FW TB md_X17_tell 192 (.aload 6, 0, 0, 0, []) := io_plain (by decide +kernel) rfl
theorem r_X17_tell_194 : IOK WB AD SR FW TB md_X17_tell 194 (.getfield 279, 14, 0, 2, []) := io_get (by decide +kernel) fo_RX17_279
theorem r_X17_tell_197 : IOK WB AD SR FW TB md_X17_tell 197 (.aload 6, 0, 0, 0, []) := io_plain (by decide +kernel) rfl
theorem r_X17_tell_199 : IOK WB AD SR FW TB md_X17_tell 199 (.invokestatic 518, 104, 18, 0, []) := io_stat (by decide +kernel) tb_X17_othersOf (Or.inl (wb_10 102 rfl rfl)) st_X17_othersOf pr_X17_othersOf
theorem r_X17_tell_202 : IOK WB AD SR FW TB md_X17_tell 202 (.invokestatic 499, 98, 18, 0, []) := io_stat (by decide +kernel) tb_X17_canTell (Or.inl (wb_10 59 rfl rfl)) st_X17_canTell pr_X17_canTell
theorem r_X17_tell_205 : IOK WB AD SR FW TB md_X17_tell 205 (.ifCond .eq 7, 0, 0, 0, []) := io_plain (by decide +kernel) rfl
theorem r_X17_tell_208 : IOK WB AD SR FW TB md_X17_tell 208 (.iconst 0, 0, 0, 0, []) := io_plain (by decide +kernel) rfl
theorem r_X17_tell_209 : IOK WB AD SR FW TB md_X17_tell 209 (.goto 4, 0, 0, 0, []) := io_plain (by decide +kernel) rfl
theorem r_X17_tell_213 : IOK WB AD SR FW TB md_X17_tell 213 (.putfield 114, 18, 0, 0, []) := io_put (by decide +kernel) fo_RX17_114 po_RX17_0_18_0_0
theorem r_X17_tell_216 : IOK WB AD SR FW TB md_X17_tell 216 (.aload_n 0, 0, 0, 0, []) := io_plain (by decide +kernel) rfl
theorem r_X17_tell_217 : IOK WB AD SR FW TB md_X17_tell 217 (.getfield 114, 18, 0, 0, []) := io_get (by decide +kernel) fo_RX17_114
theorem r_X17_tell_220 : IOK WB AD SR FW TB md_X17_tell 220 (.ifCond .le 5, 0, 0, 0, []) := io_plain (by decide +kernel) rfl
theorem r_X17_tell_225 : IOK WB AD SR FW TB md_X17_tell 225 (.iconst 0, 0, 0, 0, []) := io_plain (by decide +kernel) rfl
theorem r_X17_tell_226 : IOK WB AD SR FW TB md_X17_tell 226 (.istore 7, 0, 0, 0, []) := io_plain (by decide +kernel) rfl
theorem r_X17_tell_228 : IOK WB AD SR FW TB md_X17_tell 228 (.iload 7, 0, 0, 0, []) := io_plain (by decide +kernel) rfl
theorem r_X17_tell_230 : IOK WB AD SR FW TB md_X17_tell 230 (.iload_n 3, 0, 0, 0, []) := io_plain (by decide +kernel) rfl
theorem r_X17_tell_231 : IOK WB AD SR FW TB md_X17_tell 231 (.if_icmp .ge 14, 0, 0, 0, []) := io_plain (by decide +kernel) rfl
theorem r_X17_tell_234 : IOK WB AD SR FW TB md_X17_tell 234 (.aload_n 0, 0, 0, 0, []) := io_plain (by decide +kernel) rfl
theorem r_X17_tell_235 : IOK WB AD SR FW TB md_X17_tell 235 (.invokevirtual 363, 74, 18, 0, []) := io_virt (by decide +kernel) tb_X17_pop (Or.inl (wb_8 27 rfl rfl)) in_X17_pop se_X17_pop ⟨_, rfl, rfl⟩ pr_X17_pop (by decide)
theorem r_X17_tell_238 : IOK WB AD SR FW TB md_X17_tell 238 (.pop, 0, 0, 0, []) := io_plain (by decide +kernel) rfl
theorem r_X17_tell_239 : IOK WB AD SR FW TB md_X17_tell 239 (.iinc 7 1, 0, 0, 0, []) := io_plain (by decide +kernel) rfl
theorem r_X17_tell_242 : IOK WB AD SR FW TB md_X17_tell 242 (.goto (-14), 0, 0, 0, []) := io_plain (by decide +kernel) rfl
theorem r_X17_tell_245 : IOK WB AD SR FW TB md_X17_tell 245 (.aload 5, 0, 0, 0, []) := io_plain (by decide +kernel) rfl
theorem r_X17_tell_247 : IOK WB AD SR FW TB md_X17_tell 247 (.aload 6, 0, 0, 0, []) := io_plain (by decide +kernel) rfl
theorem r_X17_tell_249 : IOK WB AD SR FW TB md_X17_tell 249 (.invokeinterface 344 2, 64, 0, 0, []) := io_face (by decide +kernel) tb_Jx4a65c_add_9ea2d (List.mem_of_getElem? (i := 2) rfl) (wb_9 10 rfl rfl) in_Jx4a65c_add_9ea2d (wb_9 13 rfl rfl) rfl rfl rfl pr_Jx4a65c_add_9ea2d (by decide)
theorem r_X17_tell_254 : IOK WB AD SR FW TB md_X17_tell 254 (.pop, 0, 0, 0, []) := io_plain (by decide +kernel) rfl
theorem r_X17_tell_255 : IOK WB AD SR FW TB md_X17_tell 255 (.aload_n 0, 0, 0, 0, []) := io_plain (by decide +kernel) rfl
