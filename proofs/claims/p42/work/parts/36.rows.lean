theorem r_J6_bitCount_0f7a4_40 : IOK WB AD SR FW TB md_J6_bitCount_0f7a4 40 (.istore_n 0, 0, 0, 0, []) := io_plain (by decide +kernel) rfl
theorem r_J6_bitCount_0f7a4_41 : IOK WB AD SR FW TB md_J6_bitCount_0f7a4 41 (.iload_n 0, 0, 0, 0, []) := io_plain (by decide +kernel) rfl
theorem r_J6_bitCount_0f7a4_42 : IOK WB AD SR FW TB md_J6_bitCount_0f7a4 42 (.iload_n 0, 0, 0, 0, []) := io_plain (by decide +kernel) rfl
theorem r_J6_bitCount_0f7a4_43 : IOK WB AD SR FW TB md_J6_bitCount_0f7a4 43 (.bipush 16, 0, 0, 0, []) := io_plain (by decide +kernel) rfl
theorem r_J6_bitCount_0f7a4_45 : IOK WB AD SR FW TB md_J6_bitCount_0f7a4 45 (.iushr, 0, 0, 0, []) := io_plain (by decide +kernel) rfl
theorem r_J6_bitCount_0f7a4_46 : IOK WB AD SR FW TB md_J6_bitCount_0f7a4 46 (.iadd, 0, 0, 0, []) := io_plain (by decide +kernel) rfl
theorem r_J6_bitCount_0f7a4_47 : IOK WB AD SR FW TB md_J6_bitCount_0f7a4 47 (.istore_n 0, 0, 0, 0, []) := io_plain (by decide +kernel) rfl
theorem r_J6_bitCount_0f7a4_48 : IOK WB AD SR FW TB md_J6_bitCount_0f7a4 48 (.iload_n 0, 0, 0, 0, []) := io_plain (by decide +kernel) rfl
theorem r_J6_bitCount_0f7a4_49 : IOK WB AD SR FW TB md_J6_bitCount_0f7a4 49 (.bipush 63, 0, 0, 0, []) := io_plain (by decide +kernel) rfl
theorem r_J6_bitCount_0f7a4_51 : IOK WB AD SR FW TB md_J6_bitCount_0f7a4 51 (.iand, 0, 0, 0, []) := io_plain (by decide +kernel) rfl
theorem r_J6_bitCount_0f7a4_52 : IOK WB AD SR FW TB md_J6_bitCount_0f7a4 52 (.ireturn, 0, 0, 0, []) := io_plain (by decide +kernel) rfl
set_option maxRecDepth 100000 in
theorem ok_J6_bitCount_0f7a4_0 : ∀ q ∈ tl_J6_bitCount_0f7a4_0, IOK WB AD SR FW TB md_J6_bitCount_0f7a4 q.1 q.2 := List.forall_mem_cons.mpr ⟨r_J6_bitCount_0f7a4_0, List.forall_mem_cons.mpr ⟨r_J6_bitCount_0f7a4_1, List.forall_mem_cons.mpr ⟨r_J6_bitCount_0f7a4_2, List.forall_mem_cons.mpr ⟨r_J6_bitCount_0f7a4_3, List.forall_mem_cons.mpr ⟨r_J6_bitCount_0f7a4_4, List.forall_mem_cons.mpr ⟨r_J6_bitCount_0f7a4_7, List.forall_mem_cons.mpr ⟨r_J6_bitCount_0f7a4_8, List.forall_mem_cons.mpr ⟨r_J6_bitCount_0f7a4_9, List.forall_mem_cons.mpr ⟨r_J6_bitCount_0f7a4_10, List.forall_mem_cons.mpr ⟨r_J6_bitCount_0f7a4_11, List.forall_mem_cons.mpr ⟨r_J6_bitCount_0f7a4_14, List.forall_mem_cons.mpr ⟨r_J6_bitCount_0f7a4_15, List.forall_mem_cons.mpr ⟨r_J6_bitCount_0f7a4_16, List.forall_mem_cons.mpr ⟨r_J6_bitCount_0f7a4_17, List.forall_mem_cons.mpr ⟨r_J6_bitCount_0f7a4_18, List.forall_mem_cons.mpr ⟨r_J6_bitCount_0f7a4_21, List.forall_mem_cons.mpr ⟨r_J6_bitCount_0f7a4_22, List.forall_mem_cons.mpr ⟨r_J6_bitCount_0f7a4_23, List.forall_mem_cons.mpr ⟨r_J6_bitCount_0f7a4_24, List.forall_mem_cons.mpr ⟨r_J6_bitCount_0f7a4_25, List.forall_mem_cons.mpr ⟨r_J6_bitCount_0f7a4_26, List.forall_mem_cons.mpr ⟨r_J6_bitCount_0f7a4_27, List.forall_mem_cons.mpr ⟨r_J6_bitCount_0f7a4_28, List.forall_mem_cons.mpr ⟨r_J6_bitCount_0f7a4_29, List.forall_mem_cons.mpr ⟨r_J6_bitCount_0f7a4_32, List.forall_mem_cons.mpr ⟨r_J6_bitCount_0f7a4_33, List.forall_mem_cons.mpr ⟨r_J6_bitCount_0f7a4_34, List.forall_mem_cons.mpr ⟨r_J6_bitCount_0f7a4_35, List.forall_mem_cons.mpr ⟨r_J6_bitCount_0f7a4_36, List.forall_mem_cons.mpr ⟨r_J6_bitCount_0f7a4_38, List.forall_mem_cons.mpr ⟨r_J6_bitCount_0f7a4_39, List.forall_mem_cons.mpr ⟨r_J6_bitCount_0f7a4_40, List.forall_mem_cons.mpr ⟨r_J6_bitCount_0f7a4_41, List.forall_mem_cons.mpr ⟨r_J6_bitCount_0f7a4_42, List.forall_mem_cons.mpr ⟨r_J6_bitCount_0f7a4_43, List.forall_mem_cons.mpr ⟨r_J6_bitCount_0f7a4_45, List.forall_mem_cons.mpr ⟨r_J6_bitCount_0f7a4_46, List.forall_mem_cons.mpr ⟨r_J6_bitCount_0f7a4_47, List.forall_mem_cons.mpr ⟨r_J6_bitCount_0f7a4_48, List.forall_mem_cons.mpr ⟨r_J6_bitCount_0f7a4_49, fun _ h => absurd h List.not_mem_nil⟩⟩⟩⟩⟩⟩⟩⟩⟩⟩⟩⟩⟩⟩⟩⟩⟩⟩⟩⟩⟩⟩⟩⟩⟩⟩⟩⟩⟩⟩⟩⟩⟩⟩⟩⟩⟩⟩⟩⟩
set_option maxRecDepth 100000 in
theorem tq_J6_bitCount_0f7a4_0 : tf_J6_bitCount_0f7a4_0 = tl_J6_bitCount_0f7a4_0.map (fun q => (q.1, stepOf NPf md_J6_bitCount_0f7a4 q.2)) := rfl
set_option maxRecDepth 100000 in
theorem ok_J6_bitCount_0f7a4_1 : ∀ q ∈ tl_J6_bitCount_0f7a4_1, IOK WB AD SR FW TB md_J6_bitCount_0f7a4 q.1 q.2 := List.forall_mem_cons.mpr ⟨r_J6_bitCount_0f7a4_51, List.forall_mem_cons.mpr ⟨r_J6_bitCount_0f7a4_52, fun _ h => absurd h List.not_mem_nil⟩⟩
set_option maxRecDepth 100000 in
theorem tq_J6_bitCount_0f7a4_1 : tf_J6_bitCount_0f7a4_1 = tl_J6_bitCount_0f7a4_1.map (fun q => (q.1, stepOf NPf md_J6_bitCount_0f7a4 q.2)) := rfl
theorem ro_J6_bitCount_0f7a4 : RowsOK (md_J6_bitCount_0f7a4, tl_J6_bitCount_0f7a4) tf_J6_bitCount_0f7a4 := rows_app ⟨tq_J6_bitCount_0f7a4_0, ok_J6_bitCount_0f7a4_0⟩ (⟨tq_J6_bitCount_0f7a4_1, ok_J6_bitCount_0f7a4_1⟩)
theorem r_X10_term_0 : IOK WB AD SR FW TB md_X10_term 0 (.iload_n 1, 0, 0, 0, []) := io_plain (by decide +kernel) rfl
theorem r_X10_term_1 : IOK WB AD SR FW TB md_X10_term 1 (.invokestatic 108, 28, 10, 0, []) := io_stat (by decide +kernel) tb_X10_isVariableNumber (Or.inl (wb_3 175 rfl rfl)) st_X10_isVariableNumber pr_X10_isVariableNumber
theorem r_X10_term_4 : IOK WB AD SR FW TB md_X10_term 4 (.ifCond .ne 13, 0, 0, 0, []) := io_plain (by decide +kernel) rfl
theorem r_X10_term_17 : IOK WB AD SR FW TB md_X10_term 17 (.aload_n 0, 0, 0, 0, []) := io_plain (by decide +kernel) rfl
theorem r_X10_term_18 : IOK WB AD SR FW TB md_X10_term 18 (.getfield 160, 10, 8, 0, []) := io_get (by decide +kernel) fo_RX10_160
theorem r_X10_term_21 : IOK WB AD SR FW TB md_X10_term 21 (.bipush 10, 0, 0, 0, []) := io_plain (by decide +kernel) rfl
theorem r_X10_term_23 : IOK WB AD SR FW TB md_X10_term 23 (.if_icmp .lt 13, 0, 0, 0, []) := io_plain (by decide +kernel) rfl
theorem r_X10_term_36 : IOK WB AD SR FW TB md_X10_term 36 (.aload_n 0, 0, 0, 0, []) := io_plain (by decide +kernel) rfl
theorem r_X10_term_37 : IOK WB AD SR FW TB md_X10_term 37 (.iload_n 1, 0, 0, 0, []) := io_plain (by decide +kernel) rfl
theorem r_X10_term_38 : IOK WB AD SR FW TB md_X10_term 38 (.invokevirtual 165, 15, 10, 0, []) := io_virt (by decide +kernel) tb_X10_push (Or.inl (wb_3 180 rfl rfl)) in_X10_push se_X10_push ⟨_, rfl, rfl⟩ pr_X10_push (by decide)
theorem r_X10_term_41 : IOK WB AD SR FW TB md_X10_term 41 (.ireturn, 0, 0, 0, []) := io_plain (by decide +kernel) rfl
set_option maxRecDepth 100000 in
theorem ok_X10_term_0 : ∀ q ∈ tl_X10_term, IOK WB AD SR FW TB md_X10_term q.1 q.2 := List.forall_mem_cons.mpr ⟨r_X10_term_0, List.forall_mem_cons.mpr ⟨r_X10_term_1, List.forall_mem_cons.mpr ⟨r_X10_term_4, List.forall_mem_cons.mpr ⟨r_X10_term_17, List.forall_mem_cons.mpr ⟨r_X10_term_18, List.forall_mem_cons.mpr ⟨r_X10_term_21, List.forall_mem_cons.mpr ⟨r_X10_term_23, List.forall_mem_cons.mpr ⟨r_X10_term_36, List.forall_mem_cons.mpr ⟨r_X10_term_37, List.forall_mem_cons.mpr ⟨r_X10_term_38, List.forall_mem_cons.mpr ⟨r_X10_term_41, fun _ h => absurd h List.not_mem_nil⟩⟩⟩⟩⟩⟩⟩⟩⟩⟩⟩
set_option maxRecDepth 100000 in
theorem tq_X10_term_0 : tf_X10_term = tl_X10_term.map (fun q => (q.1, stepOf NPf md_X10_term q.2)) := rfl
theorem ro_X10_term : RowsOK (md_X10_term, tl_X10_term) tf_X10_term := ⟨tq_X10_term_0, ok_X10_term_0⟩
theorem r_X10_init_0 : IOK WB AD SR FW TB md_X10_init 0 (.aload_n 0, 0, 0, 0, []) := io_plain (by decide +kernel) rfl
theorem r_X10_init_1 : IOK WB AD SR FW TB md_X10_init 1 (.invokespecial 3, 1000, 0, 0, []) := io_obj (by decide +kernel) (wb_1 26 rfl rfl) ob_1 ob_2
theorem r_X10_init_4 : IOK WB AD SR FW TB md_X10_init 4 (.aload_n 0, 0, 0, 0, []) := io_plain (by decide +kernel) rfl
theorem r_X10_init_5 : IOK WB AD SR FW TB md_X10_init 5 (.new 9, 7, 0, 0, [0, 0, 2, 2, 2, 2, 2, 2, 2, 2, 2]) := io_new (by decide +kernel) rfl no_RX10_9
theorem r_X10_init_8 : IOK WB AD SR FW TB md_X10_init 8 (.dup, 0, 0, 0, []) := io_plain (by decide +kernel) rfl
theorem r_X10_init_9 : IOK WB AD SR FW TB md_X10_init 9 (.invokespecial 11, 18, 7, 0, []) := io_spec (by decide +kernel) tb_X7_init (wb_1 31 rfl rfl) in_X7_init rfl rfl rfl pr_X7_init (by decide)
theorem r_X10_init_12 : IOK WB AD SR FW TB md_X10_init 12 (.putfield 12, 10, 0, 2, []) := io_put (by decide +kernel) fo_RX10_12 po_RX10_1_10_0_2
theorem r_X10_init_15 : IOK WB AD SR FW TB md_X10_init 15 (.aload_n 0, 0, 0, 0, []) := io_plain (by decide +kernel) rfl
theorem r_X10_init_16 : IOK WB AD SR FW TB md_X10_init 16 (.new 16, 8, 0, 0, [2, 2, 0, 2, 0, 2, 2, 2, 0, 0, 1]) := io_new (by decide +kernel) rfl no_RX10_16
theorem r_X10_init_19 : IOK WB AD SR FW TB md_X10_init 19 (.dup, 0, 0, 0, []) := io_plain (by decide +kernel) rfl
theorem r_X10_init_20 : IOK WB AD SR FW TB md_X10_init 20 (.aload_n 0, 0, 0, 0, []) := io_plain (by decide +kernel) rfl
theorem r_X10_init_21 : IOK WB AD SR FW TB md_X10_init 21 (.getfield 12, 10, 0, 2, []) := io_get (by decide +kernel) fo_RX10_12
theorem r_X10_init_24 : IOK WB AD SR FW TB md_X10_init 24 (.invokespecial 18, 11, 8, 0, []) := io_spec (by decide +kernel) tb_X8_init (wb_1 90 rfl rfl) in_X8_init rfl rfl rfl pr_X8_init (by decide)
theorem r_X10_init_27 : IOK WB AD SR FW TB md_X10_init 27 (.putfield 21, 10, 1, 2, []) := io_put (by decide +kernel) fo_RX10_21 po_RX10_1_10_1_2
theorem r_X10_init_30 : IOK WB AD SR FW TB md_X10_init 30 (.aload_n 0, 0, 0, 0, []) := io_plain (by decide +kernel) rfl
theorem r_X10_init_31 : IOK WB AD SR FW TB md_X10_init 31 (.new 25, 2, 0, 0, [2, 2, 0, 0, 2]) := io_new (by decide +kernel) rfl no_RX10_25
theorem r_X10_init_34 : IOK WB AD SR FW TB md_X10_init 34 (.dup, 0, 0, 0, []) := io_plain (by decide +kernel) rfl
theorem r_X10_init_35 : IOK WB AD SR FW TB md_X10_init 35 (.aload_n 0, 0, 0, 0, []) := io_plain (by decide +kernel) rfl
theorem r_X10_init_36 : IOK WB AD SR FW TB md_X10_init 36 (.getfield 21, 10, 1, 2, []) := io_get (by decide +kernel) fo_RX10_21
theorem r_X10_init_39 : IOK WB AD SR FW TB md_X10_init 39 (.invokespecial 27, 39, 2, 0, []) := io_spec (by decide +kernel) tb_X2_init (wb_1 145 rfl rfl) in_X2_init rfl rfl rfl pr_X2_init (by decide)
theorem r_X10_init_42 : IOK WB AD SR FW TB md_X10_init 42 (.putfield 30, 10, 2, 2, []) := io_put (by decide +kernel) fo_RX10_30 po_RX10_1_10_2_2
theorem r_X10_init_45 : IOK WB AD SR FW TB md_X10_init 45 (.aload_n 0, 0, 0, 0, []) := io_plain (by decide +kernel) rfl
theorem r_X10_init_46 : IOK WB AD SR FW TB md_X10_init 46 (.new 34, 3, 0, 0, [2, 2, 2, 2, 2, 0, 2, 2, 2, 2, 2, 2, 0, 0, 0, 0]) := io_new (by decide +kernel) rfl no_RX10_34
theorem r_X10_init_49 : IOK WB AD SR FW TB md_X10_init 49 (.dup, 0, 0, 0, []) := io_plain (by decide +kernel) rfl
theorem r_X10_init_50 : IOK WB AD SR FW TB md_X10_init 50 (.aload_n 0, 0, 0, 0, []) := io_plain (by decide +kernel) rfl
theorem r_X10_init_51 : IOK WB AD SR FW TB md_X10_init 51 (.getfield 21, 10, 1, 2, []) := io_get (by decide +kernel) fo_RX10_21
theorem r_X10_init_54 : IOK WB AD SR FW TB md_X10_init 54 (.invokespecial 36, 27, 3, 0, []) := io_spec (by decide +kernel) tb_X3_init (wb_1 173 rfl rfl) in_X3_init rfl rfl rfl pr_X3_init (by decide)
theorem r_X10_init_57 : IOK WB AD SR FW TB md_X10_init 57 (.putfield 37, 10, 3, 2, []) := io_put (by decide +kernel) fo_RX10_37 po_RX10_1_10_3_2
theorem r_X10_init_60 : IOK WB AD SR FW TB md_X10_init 60 (.aload_n 0, 0, 0, 0, []) := io_plain (by decide +kernel) rfl
theorem r_X10_init_61 : IOK WB AD SR FW TB md_X10_init 61 (.new 41, 6, 0, 0, [2, 2, 2, 0, 0, 2, 2, 2, 2, 2]) := io_new (by decide +kernel) rfl no_RX10_41
theorem r_X10_init_64 : IOK WB AD SR FW TB md_X10_init 64 (.dup, 0, 0, 0, []) := io_plain (by decide +kernel) rfl
theorem r_X10_init_65 : IOK WB AD SR FW TB md_X10_init 65 (.aload_n 0, 0, 0, 0, []) := io_plain (by decide +kernel) rfl
theorem r_X10_init_66 : IOK WB AD SR FW TB md_X10_init 66 (.getfield 30, 10, 2, 2, []) := io_get (by decide +kernel) fo_RX10_30
theorem r_X10_init_69 : IOK WB AD SR FW TB md_X10_init 69 (.aload_n 0, 0, 0, 0, []) := io_plain (by decide +kernel) rfl
theorem r_X10_init_70 : IOK WB AD SR FW TB md_X10_init 70 (.getfield 37, 10, 3, 2, []) := io_get (by decide +kernel) fo_RX10_37
theorem r_X10_init_73 : IOK WB AD SR FW TB md_X10_init 73 (.invokespecial 43, 31, 6, 0, []) := io_spec (by decide +kernel) tb_X6_init (wb_2 54 rfl rfl) in_X6_init rfl rfl rfl pr_X6_init (by decide)
theorem r_X10_init_76 : IOK WB AD SR FW TB md_X10_init 76 (.putfield 46, 10, 4, 2, []) := io_put (by decide +kernel) fo_RX10_46 po_RX10_1_10_4_2
theorem r_X10_init_79 : IOK WB AD SR FW TB md_X10_init 79 (.new 50, 9, 0, 0, [2, 2, 2, 2, 0, 0, 0, 0, 0, 0, 0, 0, 0, 0, 0]) := io_new (by decide +kernel) rfl no_RX10_50
theorem r_X10_init_82 : IOK WB AD SR FW TB md_X10_init 82 (.dup, 0, 0, 0, []) := io_plain (by decide +kernel) rfl
theorem r_X10_init_83 : IOK WB AD SR FW TB md_X10_init 83 (.aload_n 0, 0, 0, 0, []) := io_plain (by decide +kernel) rfl
theorem r_X10_init_84 : IOK WB AD SR FW TB md_X10_init 84 (.getfield 46, 10, 4, 2, []) := io_get (by decide +kernel) fo_RX10_46
theorem r_X10_init_87 : IOK WB AD SR FW TB md_X10_init 87 (.invokespecial 52, 37, 9, 0, []) := io_spec (by decide +kernel) tb_X9_init (wb_2 97 rfl rfl) in_X9_init rfl rfl rfl pr_X9_init (by decide)
theorem r_X10_init_90 : IOK WB AD SR FW TB md_X10_init 90 (.astore_n 1, 0, 0, 0, []) := io_plain (by decide +kernel) rfl
theorem r_X10_init_91 : IOK WB AD SR FW TB md_X10_init 91 (.aload_n 0, 0, 0, 0, []) := io_plain (by decide +kernel) rfl
theorem r_X10_init_92 : IOK WB AD SR FW TB md_X10_init 92 (.new 55, 1, 0, 0, [2, 2, 0, 1, 2, 2, 2, 0, 0]) := io_new (by decide +kernel) rfl no_RX10_55
theorem r_X10_init_95 : IOK WB AD SR FW TB md_X10_init 95 (.dup, 0, 0, 0, []) := io_plain (by decide +kernel) rfl
theorem r_X10_init_96 : IOK WB AD SR FW TB md_X10_init 96 (.aload_n 1, 0, 0, 0, []) := io_plain (by decide +kernel) rfl
theorem r_X10_init_97 : IOK WB AD SR FW TB md_X10_init 97 (.invokespecial 57, 34, 1, 0, []) := io_spec (by decide +kernel) tb_X1_init (wb_2 140 rfl rfl) in_X1_init rfl rfl rfl pr_X1_init (by decide)
theorem r_X10_init_100 : IOK WB AD SR FW TB md_X10_init 100 (.putfield 60, 10, 5, 2, []) := io_put (by decide +kernel) fo_RX10_60 po_RX10_1_10_5_2
theorem r_X10_init_103 : IOK WB AD SR FW TB md_X10_init 103 (.aload_n 0, 0, 0, 0, []) := io_plain (by decide +kernel) rfl
theorem r_X10_init_104 : IOK WB AD SR FW TB md_X10_init 104 (.new 64, 5, 0, 0, [2, 2, 0, 0, 2, 2, 2, 0, 0]) := io_new (by decide +kernel) rfl no_RX10_64
theorem r_X10_init_107 : IOK WB AD SR FW TB md_X10_init 107 (.dup, 0, 0, 0, []) := io_plain (by decide +kernel) rfl
theorem r_X10_init_108 : IOK WB AD SR FW TB md_X10_init 108 (.aload_n 1, 0, 0, 0, []) := io_plain (by decide +kernel) rfl
theorem r_X10_init_109 : IOK WB AD SR FW TB md_X10_init 109 (.invokespecial 66, 35, 5, 0, []) := io_spec (by decide +kernel) tb_X5_init (wb_2 170 rfl rfl) in_X5_init rfl rfl rfl pr_X5_init (by decide)
theorem r_X10_init_112 : IOK WB AD SR FW TB md_X10_init 112 (.putfield 67, 10, 6, 2, []) := io_put (by decide +kernel) fo_RX10_67 po_RX10_1_10_6_2
theorem r_X10_init_115 : IOK WB AD SR FW TB md_X10_init 115 (.aload_n 0, 0, 0, 0, []) := io_plain (by decide +kernel) rfl
theorem r_X10_init_116 : IOK WB AD SR FW TB md_X10_init 116 (.new 71, 0, 0, 0, [2, 2, 2, 2, 0, 2, 2, 2, 0, 2, 0, 0, 0, 2]) := io_new (by decide +kernel) rfl no_RX10_71
theorem r_X10_init_119 : IOK WB AD SR FW TB md_X10_init 119 (.dup, 0, 0, 0, []) := io_plain (by decide +kernel) rfl
theorem r_X10_init_120 : IOK WB AD SR FW TB md_X10_init 120 (.aload_n 0, 0, 0, 0, []) := io_plain (by decide +kernel) rfl
theorem r_X10_init_121 : IOK WB AD SR FW TB md_X10_init 121 (.getfield 46, 10, 4, 2, []) := io_get (by decide +kernel) fo_RX10_46
theorem r_X10_init_124 : IOK WB AD SR FW TB md_X10_init 124 (.invokespecial 73, 30, 0, 0, []) := io_spec (by decide +kernel) tb_X0_init (wb_2 200 rfl rfl) in_X0_init rfl rfl rfl pr_X0_init (by decide)
theorem r_X10_init_127 : IOK WB AD SR FW TB md_X10_init 127 (.putfield 74, 10, 7, 2, []) := io_put (by decide +kernel) fo_RX10_74 po_RX10_1_10_7_2
theorem r_X10_init_130 : IOK WB AD SR FW TB md_X10_init 130 (.return_, 0, 0, 0, []) := io_void (by decide +kernel) rfl
set_option maxRecDepth 100000 in
theorem ok_X10_init_0 : ∀ q ∈ tl_X10_init_0, IOK WB AD SR FW TB md_X10_init q.1 q.2 := List.forall_mem_cons.mpr ⟨r_X10_init_0, List.forall_mem_cons.mpr ⟨r_X10_init_1, List.forall_mem_cons.mpr ⟨r_X10_init_4, List.forall_mem_cons.mpr ⟨r_X10_init_5, List.forall_mem_cons.mpr ⟨r_X10_init_8, List.forall_mem_cons.mpr ⟨r_X10_init_9, List.forall_mem_cons.mpr ⟨r_X10_init_12, List.forall_mem_cons.mpr ⟨r_X10_init_15, List.forall_mem_cons.mpr ⟨r_X10_init_16, List.forall_mem_cons.mpr ⟨r_X10_init_19, List.forall_mem_cons.mpr ⟨r_X10_init_20, List.forall_mem_cons.mpr ⟨r_X10_init_21, List.forall_mem_cons.mpr ⟨r_X10_init_24, List.forall_mem_cons.mpr ⟨r_X10_init_27, List.forall_mem_cons.mpr ⟨r_X10_init_30, List.forall_mem_cons.mpr ⟨r_X10_init_31, List.forall_mem_cons.mpr ⟨r_X10_init_34, List.forall_mem_cons.mpr ⟨r_X10_init_35, List.forall_mem_cons.mpr ⟨r_X10_init_36, List.forall_mem_cons.mpr ⟨r_X10_init_39, List.forall_mem_cons.mpr ⟨r_X10_init_42, List.forall_mem_cons.mpr ⟨r_X10_init_45, List.forall_mem_cons.mpr ⟨r_X10_init_46, List.forall_mem_cons.mpr ⟨r_X10_init_49, List.forall_mem_cons.mpr ⟨r_X10_init_50, List.forall_mem_cons.mpr ⟨r_X10_init_51, List.forall_mem_cons.mpr ⟨r_X10_init_54, List.forall_mem_cons.mpr ⟨r_X10_init_57, List.forall_mem_cons.mpr ⟨r_X10_init_60, List.forall_mem_cons.mpr ⟨r_X10_init_61, List.forall_mem_cons.mpr ⟨r_X10_init_64, List.forall_mem_cons.mpr ⟨r_X10_init_65, List.forall_mem_cons.mpr ⟨r_X10_init_66, List.forall_mem_cons.mpr ⟨r_X10_init_69, List.forall_mem_cons.mpr ⟨r_X10_init_70, List.forall_mem_cons.mpr ⟨r_X10_init_73, List.forall_mem_cons.mpr ⟨r_X10_init_76, List.forall_mem_cons.mpr ⟨r_X10_init_79, List.forall_mem_cons.mpr ⟨r_X10_init_82, List.forall_mem_cons.mpr ⟨r_X10_init_83, fun _ h => absurd h List.not_mem_nil⟩⟩⟩⟩⟩⟩⟩⟩⟩⟩⟩⟩⟩⟩⟩⟩⟩⟩⟩⟩⟩⟩⟩⟩⟩⟩⟩⟩⟩⟩⟩⟩⟩⟩⟩⟩⟩⟩⟩⟩
set_option maxRecDepth 100000 in
theorem tq_X10_init_0 : tf_X10_init_0 = tl_X10_init_0.map (fun q => (q.1, stepOf NPf md_X10_init q.2)) := rfl
set_option maxRecDepth 100000 in
theorem ok_X10_init_1 : ∀ q ∈ tl_X10_init_1, IOK WB AD SR FW TB md_X10_init q.1 q.2 := List.forall_mem_cons.mpr ⟨r_X10_init_84, List.forall_mem_cons.mpr ⟨r_X10_init_87, List.forall_mem_cons.mpr ⟨r_X10_init_90, List.forall_mem_cons.mpr ⟨r_X10_init_91, List.forall_mem_cons.mpr ⟨r_X10_init_92, List.forall_mem_cons.mpr ⟨r_X10_init_95, List.forall_mem_cons.mpr ⟨r_X10_init_96, List.forall_mem_cons.mpr ⟨r_X10_init_97, List.forall_mem_cons.mpr ⟨r_X10_init_100, List.forall_mem_cons.mpr ⟨r_X10_init_103, List.forall_mem_cons.mpr ⟨r_X10_init_104, List.forall_mem_cons.mpr ⟨r_X10_init_107, List.forall_mem_cons.mpr ⟨r_X10_init_108, List.forall_mem_cons.mpr ⟨r_X10_init_109, List.forall_mem_cons.mpr ⟨r_X10_init_112, List.forall_mem_cons.mpr ⟨r_X10_init_115, List.forall_mem_cons.mpr ⟨r_X10_init_116, List.forall_mem_cons.mpr ⟨r_X10_init_119, List.forall_mem_cons.mpr ⟨r_X10_init_120, List.forall_mem_cons.mpr ⟨r_X10_init_121, List.forall_mem_cons.mpr ⟨r_X10_init_124, List.forall_mem_cons.mpr ⟨r_X10_init_127, List.forall_mem_cons.mpr ⟨r_X10_init_130, fun _ h => absurd h List.not_mem_nil⟩⟩⟩⟩⟩⟩⟩⟩⟩⟩⟩⟩⟩⟩⟩⟩⟩⟩⟩⟩⟩⟩⟩
set_option maxRecDepth 100000 in
theorem tq_X10_init_1 : tf_X10_init_1 = tl_X10_init_1.map (fun q => (q.1, stepOf NPf md_X10_init q.2)) := rfl
theorem ro_X10_init : RowsOK (md_X10_init, tl_X10_init) tf_X10_init := rows_app ⟨tq_X10_init_0, ok_X10_init_0⟩ (⟨tq_X10_init_1, ok_X10_init_1⟩)
theorem r_X2_add_0 : IOK WB AD SR FW TB md_X2_add 0 (.aload_n 0, 0, 0, 0, []) := io_plain (by decide +kernel) rfl
theorem r_X2_add_1 : IOK WB AD SR FW TB md_X2_add 1 (.getfield 9, 2, 4, 2, []) := io_get (by decide +kernel) fo_RX2_9
theorem r_X2_add_4 : IOK WB AD SR FW TB md_X2_add 4 (.iload_n 1, 0, 0, 0, []) := io_plain (by decide +kernel) rfl
theorem r_X2_add_5 : IOK WB AD SR FW TB md_X2_add 5 (.ifCond .eq 13, 0, 0, 0, []) := io_plain (by decide +kernel) rfl
theorem r_X2_add_18 : IOK WB AD SR FW TB md_X2_add 18 (.aload_n 0, 0, 0, 0, []) := io_plain (by decide +kernel) rfl
theorem r_X2_add_19 : IOK WB AD SR FW TB md_X2_add 19 (.getfield 26, 2, 2, 0, []) := io_get (by decide +kernel) fo_RX2_26
theorem r_X2_add_22 : IOK WB AD SR FW TB md_X2_add 22 (.iload_n 2, 0, 0, 0, []) := io_plain (by decide +kernel) rfl
theorem r_X2_add_23 : IOK WB AD SR FW TB md_X2_add 23 (.bastore, 0, 0, 0, []) := io_plain (by decide +kernel) rfl
theorem r_X2_add_24 : IOK WB AD SR FW TB md_X2_add 24 (.aload_n 0, 0, 0, 0, []) := io_plain (by decide +kernel) rfl
theorem r_X2_add_25 : IOK WB AD SR FW TB md_X2_add 25 (.dup, 0, 0, 0, []) := io_plain (by decide +kernel) rfl
theorem r_X2_add_26 : IOK WB AD SR FW TB md_X2_add 26 (.getfield 30, 2, 3, 0, []) := io_get (by decide +kernel) fo_RX2_30
theorem r_X2_add_29 : IOK WB AD SR FW TB md_X2_add 29 (.iload_n 1, 0, 0, 0, []) := io_plain (by decide +kernel) rfl
theorem r_X2_add_30 : IOK WB AD SR FW TB md_X2_add 30 (.ifCond .eq 7, 0, 0, 0, []) := io_plain (by decide +kernel) rfl
theorem r_X2_add_37 : IOK WB AD SR FW TB md_X2_add 37 (.iconst 0, 0, 0, 0, []) := io_plain (by decide +kernel) rfl
theorem r_X2_add_38 : IOK WB AD SR FW TB md_X2_add 38 (.iadd, 0, 0, 0, []) := io_plain (by decide +kernel) rfl
theorem r_X2_add_39 : IOK WB AD SR FW TB md_X2_add 39 (.putfield 30, 2, 3, 0, []) := io_put (by decide +kernel) fo_RX2_30 po_RX2_0_2_3_0
theorem r_X2_add_42 : IOK WB AD SR FW TB md_X2_add 42 (.aload_n 0, 0, 0, 0, []) := io_plain (by decide +kernel) rfl
theorem r_X2_add_43 : IOK WB AD SR FW TB md_X2_add 43 (.dup, 0, 0, 0, []) := io_plain (by decide +kernel) rfl
theorem r_X2_add_44 : IOK WB AD SR FW TB md_X2_add 44 (.getfield 26, 2, 2, 0, []) := io_get (by decide +kernel) fo_RX2_26
theorem r_X2_add_47 : IOK WB AD SR FW TB md_X2_add 47 (.iload_n 1, 0, 0, 0, []) := io_plain (by decide +kernel) rfl
theorem r_X2_add_48 : IOK WB AD SR FW TB md_X2_add 48 (.ifCond .eq 7, 0, 0, 0, []) := io_plain (by decide +kernel) rfl
theorem r_X2_add_55 : IOK WB AD SR FW TB md_X2_add 55 (.iconst 1, 0, 0, 0, []) := io_plain (by decide +kernel) rfl
theorem r_X2_add_56 : IOK WB AD SR FW TB md_X2_add 56 (.iadd, 0, 0, 0, []) := io_plain (by decide +kernel) rfl
theorem r_X2_add_57 : IOK WB AD SR FW TB md_X2_add 57 (.putfield 26, 2, 2, 0, []) := io_put (by decide +kernel) fo_RX2_26 po_RX2_0_2_2_0
theorem r_X2_add_60 : IOK WB AD SR FW TB md_X2_add 60 (.iload_n 1, 0, 0, 0, []) := io_plain (by decide +kernel) rfl
theorem r_X2_add_61 : IOK WB AD SR FW TB md_X2_add 61 (.ifCond .eq 10, 0, 0, 0, []) := io_plain (by decide +kernel) rfl
theorem r_X2_add_71 : IOK WB AD SR FW TB md_X2_add 71 (.aload_n 0, 0, 0, 0, []) := io_plain (by decide +kernel) rfl
theorem r_X2_add_72 : IOK WB AD SR FW TB md_X2_add 72 (.getfield 26, 2, 2, 0, []) := io_get (by decide +kernel) fo_RX2_26
theorem r_X2_add_75 : IOK WB AD SR FW TB md_X2_add 75 (.iconst 1, 0, 0, 0, []) := io_plain (by decide +kernel) rfl
theorem r_X2_add_76 : IOK WB AD SR FW TB md_X2_add 76 (.isub, 0, 0, 0, []) := io_plain (by decide +kernel) rfl
theorem r_X2_add_77 : IOK WB AD SR FW TB md_X2_add 77 (.ireturn, 0, 0, 0, []) := io_plain (by decide +kernel) rfl
set_option maxRecDepth 100000 in
theorem ok_X2_add_0 : ∀ q ∈ tl_X2_add, IOK WB AD SR FW TB md_X2_add q.1 q.2 := List.forall_mem_cons.mpr ⟨r_X2_add_0, List.forall_mem_cons.mpr ⟨r_X2_add_1, List.forall_mem_cons.mpr ⟨r_X2_add_4, List.forall_mem_cons.mpr ⟨r_X2_add_5, List.forall_mem_cons.mpr ⟨r_X2_add_18, List.forall_mem_cons.mpr ⟨r_X2_add_19, List.forall_mem_cons.mpr ⟨r_X2_add_22, List.forall_mem_cons.mpr ⟨r_X2_add_23, List.forall_mem_cons.mpr ⟨r_X2_add_24, List.forall_mem_cons.mpr ⟨r_X2_add_25, List.forall_mem_cons.mpr ⟨r_X2_add_26, List.forall_mem_cons.mpr ⟨r_X2_add_29, List.forall_mem_cons.mpr ⟨r_X2_add_30, List.forall_mem_cons.mpr ⟨r_X2_add_37, List.forall_mem_cons.mpr ⟨r_X2_add_38, List.forall_mem_cons.mpr ⟨r_X2_add_39, List.forall_mem_cons.mpr ⟨r_X2_add_42, List.forall_mem_cons.mpr ⟨r_X2_add_43, List.forall_mem_cons.mpr ⟨r_X2_add_44, List.forall_mem_cons.mpr ⟨r_X2_add_47, List.forall_mem_cons.mpr ⟨r_X2_add_48, List.forall_mem_cons.mpr ⟨r_X2_add_55, List.forall_mem_cons.mpr ⟨r_X2_add_56, List.forall_mem_cons.mpr ⟨r_X2_add_57, List.forall_mem_cons.mpr ⟨r_X2_add_60, List.forall_mem_cons.mpr ⟨r_X2_add_61, List.forall_mem_cons.mpr ⟨r_X2_add_71, List.forall_mem_cons.mpr ⟨r_X2_add_72, List.forall_mem_cons.mpr ⟨r_X2_add_75, List.forall_mem_cons.mpr ⟨r_X2_add_76, List.forall_mem_cons.mpr ⟨r_X2_add_77, fun _ h => absurd h List.not_mem_nil⟩⟩⟩⟩⟩⟩⟩⟩⟩⟩⟩⟩⟩⟩⟩⟩⟩⟩⟩⟩⟩⟩⟩⟩⟩⟩⟩⟩⟩⟩⟩
set_option maxRecDepth 100000 in
theorem tq_X2_add_0 : tf_X2_add = tl_X2_add.map (fun q => (q.1, stepOf NPf md_X2_add q.2)) := rfl
theorem ro_X2_add : RowsOK (md_X2_add, tl_X2_add) tf_X2_add := ⟨tq_X2_add_0, ok_X2_add_0⟩
theorem r_X4_init_0 : IOK WB AD SR FW TB md_X4_init 0 (.aload_n 0, 0, 0, 0, []) := io_plain (by decide +kernel) rfl
theorem r_X4_init_1 : IOK WB AD SR FW TB md_X4_init 1 (.invokespecial 3, 1000, 0, 0, []) := io_obj (by decide +kernel) (wb_1 182 rfl rfl) ob_1 ob_2
theorem r_X4_init_4 : IOK WB AD SR FW TB md_X4_init 4 (.aload_n 0, 0, 0, 0, []) := io_plain (by decide +kernel) rfl
theorem r_X4_init_5 : IOK WB AD SR FW TB md_X4_init 5 (.sipush 256, 0, 0, 0, []) := io_plain (by decide +kernel) rfl
theorem r_X4_init_8 : IOK WB AD SR FW TB md_X4_init 8 (.newarray .int, 0, 0, 0, []) := io_newa (by decide +kernel) (Or.inl ⟨rfl, rfl⟩) ac_int
theorem r_X4_init_10 : IOK WB AD SR FW TB md_X4_init 10 (.putfield 11, 4, 3, 2, []) := io_put (by decide +kernel) fo_RX4_11 po_RX4_1_4_3_2
theorem r_X4_init_13 : IOK WB AD SR FW TB md_X4_init 13 (.aload_n 0, 0, 0, 0, []) := io_plain (by decide +kernel) rfl
theorem r_X4_init_14 : IOK WB AD SR FW TB md_X4_init 14 (.sipush 256, 0, 0, 0, []) := io_plain (by decide +kernel) rfl
theorem r_X4_init_17 : IOK WB AD SR FW TB md_X4_init 17 (.newarray .int, 0, 0, 0, []) := io_newa (by decide +kernel) (Or.inl ⟨rfl, rfl⟩) ac_int
theorem r_X4_init_19 : IOK WB AD SR FW TB md_X4_init 19 (.putfield 15, 4, 4, 2, []) := io_put (by decide +kernel) fo_RX4_15 po_RX4_1_4_4_2
theorem r_X4_init_22 : IOK WB AD SR FW TB md_X4_init 22 (.aload_n 0, 0, 0, 0, []) := io_plain (by decide +kernel) rfl
theorem r_X4_init_23 : IOK WB AD SR FW TB md_X4_init 23 (.sipush 256, 0, 0, 0, []) := io_plain (by decide +kernel) rfl
theorem r_X4_init_26 : IOK WB AD SR FW TB md_X4_init 26 (.newarray .int, 0, 0, 0, []) := io_newa (by decide +kernel) (Or.inl ⟨rfl, rfl⟩) ac_int
theorem r_X4_init_28 : IOK WB AD SR FW TB md_X4_init 28 (.putfield 18, 4, 5, 2, []) := io_put (by decide +kernel) fo_RX4_18 po_RX4_1_4_5_2
theorem r_X4_init_31 : IOK WB AD SR FW TB md_X4_init 31 (.aload_n 0, 0, 0, 0, []) := io_plain (by decide +kernel) rfl
theorem r_X4_init_32 : IOK WB AD SR FW TB md_X4_init 32 (.sipush 256, 0, 0, 0, []) := io_plain (by decide +kernel) rfl
theorem r_X4_init_35 : IOK WB AD SR FW TB md_X4_init 35 (.newarray .int, 0, 0, 0, []) := io_newa (by decide +kernel) (Or.inl ⟨rfl, rfl⟩) ac_int
theorem r_X4_init_37 : IOK WB AD SR FW TB md_X4_init 37 (.putfield 21, 4, 6, 2, []) := io_put (by decide +kernel) fo_RX4_21 po_RX4_1_4_6_2
theorem r_X4_init_40 : IOK WB AD SR FW TB md_X4_init 40 (.aload_n 0, 0, 0, 0, []) := io_plain (by decide +kernel) rfl
theorem r_X4_init_41 : IOK WB AD SR FW TB md_X4_init 41 (.sipush 256, 0, 0, 0, []) := io_plain (by decide +kernel) rfl
theorem r_X4_init_44 : IOK WB AD SR FW TB md_X4_init 44 (.newarray .int, 0, 0, 0, []) := io_newa (by decide +kernel) (Or.inl ⟨rfl, rfl⟩) ac_int
theorem r_X4_init_46 : IOK WB AD SR FW TB md_X4_init 46 (.putfield 24, 4, 7, 2, []) := io_put (by decide +kernel) fo_RX4_24 po_RX4_1_4_7_2
theorem r_X4_init_49 : IOK WB AD SR FW TB md_X4_init 49 (.aload_n 0, 0, 0, 0, []) := io_plain (by decide +kernel) rfl
theorem r_X4_init_50 : IOK WB AD SR FW TB md_X4_init 50 (.sipush 256, 0, 0, 0, []) := io_plain (by decide +kernel) rfl
theorem r_X4_init_53 : IOK WB AD SR FW TB md_X4_init 53 (.newarray .int, 0, 0, 0, []) := io_newa (by decide +kernel) (Or.inl ⟨rfl, rfl⟩) ac_int
theorem r_X4_init_55 : IOK WB AD SR FW TB md_X4_init 55 (.putfield 27, 4, 8, 2, []) := io_put (by decide +kernel) fo_RX4_27 po_RX4_1_4_8_2
theorem r_X4_init_58 : IOK WB AD SR FW TB md_X4_init 58 (.aload_n 0, 0, 0, 0, []) := io_plain (by decide +kernel) rfl
theorem r_X4_init_59 : IOK WB AD SR FW TB md_X4_init 59 (.sipush 256, 0, 0, 0, []) := io_plain (by decide +kernel) rfl
theorem r_X4_init_62 : IOK WB AD SR FW TB md_X4_init 62 (.newarray .int, 0, 0, 0, []) := io_newa (by decide +kernel) (Or.inl ⟨rfl, rfl⟩) ac_int
theorem r_X4_init_64 : IOK WB AD SR FW TB md_X4_init 64 (.putfield 30, 4, 10, 2, []) := io_put (by decide +kernel) fo_RX4_30 po_RX4_1_4_10_2
theorem r_X4_init_67 : IOK WB AD SR FW TB md_X4_init 67 (.aload_n 0, 0, 0, 0, []) := io_plain (by decide +kernel) rfl
theorem r_X4_init_68 : IOK WB AD SR FW TB md_X4_init 68 (.sipush 256, 0, 0, 0, []) := io_plain (by decide +kernel) rfl
theorem r_X4_init_71 : IOK WB AD SR FW TB md_X4_init 71 (.newarray .int, 0, 0, 0, []) := io_newa (by decide +kernel) (Or.inl ⟨rfl, rfl⟩) ac_int
theorem r_X4_init_73 : IOK WB AD SR FW TB md_X4_init 73 (.putfield 33, 4, 11, 2, []) := io_put (by decide +kernel) fo_RX4_33 po_RX4_1_4_11_2
theorem r_X4_init_76 : IOK WB AD SR FW TB md_X4_init 76 (.aload_n 0, 0, 0, 0, []) := io_plain (by decide +kernel) rfl
theorem r_X4_init_77 : IOK WB AD SR FW TB md_X4_init 77 (.bipush 100, 0, 0, 0, []) := io_plain (by decide +kernel) rfl
theorem r_X4_init_79 : IOK WB AD SR FW TB md_X4_init 79 (.newarray .int, 0, 0, 0, []) := io_newa (by decide +kernel) (Or.inl ⟨rfl, rfl⟩) ac_int
theorem r_X4_init_81 : IOK WB AD SR FW TB md_X4_init 81 (.putfield 36, 4, 12, 2, []) := io_put (by decide +kernel) fo_RX4_36 po_RX4_1_4_12_2
theorem r_X4_init_84 : IOK WB AD SR FW TB md_X4_init 84 (.aload_n 0, 0, 0, 0, []) := io_plain (by decide +kernel) rfl
theorem r_X4_init_85 : IOK WB AD SR FW TB md_X4_init 85 (.sipush 640, 0, 0, 0, []) := io_plain (by decide +kernel) rfl
theorem r_X4_init_88 : IOK WB AD SR FW TB md_X4_init 88 (.newarray .int, 0, 0, 0, []) := io_newa (by decide +kernel) (Or.inl ⟨rfl, rfl⟩) ac_int
theorem r_X4_init_90 : IOK WB AD SR FW TB md_X4_init 90 (.putfield 39, 4, 13, 2, []) := io_put (by decide +kernel) fo_RX4_39 po_RX4_1_4_13_2
theorem r_X4_init_93 : IOK WB AD SR FW TB md_X4_init 93 (.aload_n 0, 0, 0, 0, []) := io_plain (by decide +kernel) rfl
theorem r_X4_init_94 : IOK WB AD SR FW TB md_X4_init 94 (.bipush 16, 0, 0, 0, []) := io_plain (by decide +kernel) rfl
theorem r_X4_init_96 : IOK WB AD SR FW TB md_X4_init 96 (.newarray .int, 0, 0, 0, []) := io_newa (by decide +kernel) (Or.inl ⟨rfl, rfl⟩) ac_int
theorem r_X4_init_98 : IOK WB AD SR FW TB md_X4_init 98 (.putfield 42, 4, 14, 2, []) := io_put (by decide +kernel) fo_RX4_42 po_RX4_1_4_14_2
theorem r_X4_init_101 : IOK WB AD SR FW TB md_X4_init 101 (.aload_n 0, 0, 0, 0, []) := io_plain (by decide +kernel) rfl
theorem r_X4_init_102 : IOK WB AD SR FW TB md_X4_init 102 (.aload_n 1, 0, 0, 0, []) := io_plain (by decide +kernel) rfl
theorem r_X4_init_103 : IOK WB AD SR FW TB md_X4_init 103 (.putfield 45, 4, 0, 2, []) := io_put (by decide +kernel) fo_RX4_45 po_RX4_1_4_0_2
theorem r_X4_init_106 : IOK WB AD SR FW TB md_X4_init 106 (.aload_n 0, 0, 0, 0, []) := io_plain (by decide +kernel) rfl
theorem r_X4_init_107 : IOK WB AD SR FW TB md_X4_init 107 (.aload_n 1, 0, 0, 0, []) := io_plain (by decide +kernel) rfl
theorem r_X4_init_108 : IOK WB AD SR FW TB md_X4_init 108 (.getfield 49, 8, 0, 2, []) := io_get (by decide +kernel) fo_RX4_49
theorem r_X4_init_111 : IOK WB AD SR FW TB md_X4_init 111 (.putfield 55, 4, 1, 2, []) := io_put (by decide +kernel) fo_RX4_55 po_RX4_1_4_1_2
theorem r_X4_init_114 : IOK WB AD SR FW TB md_X4_init 114 (.return_, 0, 0, 0, []) := io_void (by decide +kernel) rfl
set_option maxRecDepth 100000 in
theorem ok_X4_init_0 : ∀ q ∈ tl_X4_init_0, IOK WB AD SR FW TB md_X4_init q.1 q.2 := List.forall_mem_cons.mpr ⟨r_X4_init_0, List.forall_mem_cons.mpr ⟨r_X4_init_1, List.forall_mem_cons.mpr ⟨r_X4_init_4, List.forall_mem_cons.mpr ⟨r_X4_init_5, List.forall_mem_cons.mpr ⟨r_X4_init_8, List.forall_mem_cons.mpr ⟨r_X4_init_10, List.forall_mem_cons.mpr ⟨r_X4_init_13, List.forall_mem_cons.mpr ⟨r_X4_init_14, List.forall_mem_cons.mpr ⟨r_X4_init_17, List.forall_mem_cons.mpr ⟨r_X4_init_19, List.forall_mem_cons.mpr ⟨r_X4_init_22, List.forall_mem_cons.mpr ⟨r_X4_init_23, List.forall_mem_cons.mpr ⟨r_X4_init_26, List.forall_mem_cons.mpr ⟨r_X4_init_28, List.forall_mem_cons.mpr ⟨r_X4_init_31, List.forall_mem_cons.mpr ⟨r_X4_init_32, List.forall_mem_cons.mpr ⟨r_X4_init_35, List.forall_mem_cons.mpr ⟨r_X4_init_37, List.forall_mem_cons.mpr ⟨r_X4_init_40, List.forall_mem_cons.mpr ⟨r_X4_init_41, List.forall_mem_cons.mpr ⟨r_X4_init_44, List.forall_mem_cons.mpr ⟨r_X4_init_46, List.forall_mem_cons.mpr ⟨r_X4_init_49, List.forall_mem_cons.mpr ⟨r_X4_init_50, List.forall_mem_cons.mpr ⟨r_X4_init_53, List.forall_mem_cons.mpr ⟨r_X4_init_55, List.forall_mem_cons.mpr ⟨r_X4_init_58, List.forall_mem_cons.mpr ⟨r_X4_init_59, List.forall_mem_cons.mpr ⟨r_X4_init_62, List.forall_mem_cons.mpr ⟨r_X4_init_64, List.forall_mem_cons.mpr ⟨r_X4_init_67, List.forall_mem_cons.mpr ⟨r_X4_init_68, List.forall_mem_cons.mpr ⟨r_X4_init_71, List.forall_mem_cons.mpr ⟨r_X4_init_73, List.forall_mem_cons.mpr ⟨r_X4_init_76, List.forall_mem_cons.mpr ⟨r_X4_init_77, List.forall_mem_cons.mpr ⟨r_X4_init_79, List.forall_mem_cons.mpr ⟨r_X4_init_81, List.forall_mem_cons.mpr ⟨r_X4_init_84, List.forall_mem_cons.mpr ⟨r_X4_init_85, fun _ h => absurd h List.not_mem_nil⟩⟩⟩⟩⟩⟩⟩⟩⟩⟩⟩⟩⟩⟩⟩⟩⟩⟩⟩⟩⟩⟩⟩⟩⟩⟩⟩⟩⟩⟩⟩⟩⟩⟩⟩⟩⟩⟩⟩⟩
set_option maxRecDepth 100000 in
theorem tq_X4_init_0 : tf_X4_init_0 = tl_X4_init_0.map (fun q => (q.1, stepOf NPf md_X4_init q.2)) := rfl
set_option maxRecDepth 100000 in
theorem ok_X4_init_1 : ∀ q ∈ tl_X4_init_1, IOK WB AD SR FW TB md_X4_init q.1 q.2 := List.forall_mem_cons.mpr ⟨r_X4_init_88, List.forall_mem_cons.mpr ⟨r_X4_init_90, List.forall_mem_cons.mpr ⟨r_X4_init_93, List.forall_mem_cons.mpr ⟨r_X4_init_94, List.forall_mem_cons.mpr ⟨r_X4_init_96, List.forall_mem_cons.mpr ⟨r_X4_init_98, List.forall_mem_cons.mpr ⟨r_X4_init_101, List.forall_mem_cons.mpr ⟨r_X4_init_102, List.forall_mem_cons.mpr ⟨r_X4_init_103, List.forall_mem_cons.mpr ⟨r_X4_init_106, List.forall_mem_cons.mpr ⟨r_X4_init_107, List.forall_mem_cons.mpr ⟨r_X4_init_108, List.forall_mem_cons.mpr ⟨r_X4_init_111, List.forall_mem_cons.mpr ⟨r_X4_init_114, fun _ h => absurd h List.not_mem_nil⟩⟩⟩⟩⟩⟩⟩⟩⟩⟩⟩⟩⟩⟩
set_option maxRecDepth 100000 in
theorem tq_X4_init_1 : tf_X4_init_1 = tl_X4_init_1.map (fun q => (q.1, stepOf NPf md_X4_init q.2)) := rfl
theorem ro_X4_init : RowsOK (md_X4_init, tl_X4_init) tf_X4_init := rows_app ⟨tq_X4_init_0, ok_X4_init_0⟩ (⟨tq_X4_init_1, ok_X4_init_1⟩)
theorem r_X3_init_0 : IOK WB AD SR FW TB md_X3_init 0 (.aload_n 0, 0, 0, 0, []) := io_plain (by decide +kernel) rfl
theorem r_X3_init_1 : IOK WB AD SR FW TB md_X3_init 1 (.invokespecial 3, 1000, 0, 0, []) := io_obj (by decide +kernel) (wb_1 176 rfl rfl) ob_1 ob_2
theorem r_X3_init_4 : IOK WB AD SR FW TB md_X3_init 4 (.aload_n 0, 0, 0, 0, []) := io_plain (by decide +kernel) rfl
theorem r_X3_init_5 : IOK WB AD SR FW TB md_X3_init 5 (.sipush 256, 0, 0, 0, []) := io_plain (by decide +kernel) rfl
theorem r_X3_init_8 : IOK WB AD SR FW TB md_X3_init 8 (.newarray .int, 0, 0, 0, []) := io_newa (by decide +kernel) (Or.inl ⟨rfl, rfl⟩) ac_int
theorem r_X3_init_10 : IOK WB AD SR FW TB md_X3_init 10 (.putfield 11, 3, 3, 2, []) := io_put (by decide +kernel) fo_RX3_11 po_RX3_1_3_3_2
theorem r_X3_init_13 : IOK WB AD SR FW TB md_X3_init 13 (.aload_n 0, 0, 0, 0, []) := io_plain (by decide +kernel) rfl
theorem r_X3_init_14 : IOK WB AD SR FW TB md_X3_init 14 (.bipush 20, 0, 0, 0, []) := io_plain (by decide +kernel) rfl
theorem r_X3_init_16 : IOK WB AD SR FW TB md_X3_init 16 (.newarray .int, 0, 0, 0, []) := io_newa (by decide +kernel) (Or.inl ⟨rfl, rfl⟩) ac_int
theorem r_X3_init_18 : IOK WB AD SR FW TB md_X3_init 18 (.putfield 17, 3, 4, 2, []) := io_put (by decide +kernel) fo_RX3_17 po_RX3_1_3_4_2
theorem r_X3_init_21 : IOK WB AD SR FW TB md_X3_init 21 (.aload_n 0, 0, 0, 0, []) := io_plain (by decide +kernel) rfl
theorem r_X3_init_22 : IOK WB AD SR FW TB md_X3_init 22 (.bipush 64, 0, 0, 0, []) := io_plain (by decide +kernel) rfl
theorem r_X3_init_24 : IOK WB AD SR FW TB md_X3_init 24 (.newarray .int, 0, 0, 0, []) := io_newa (by decide +kernel) (Or.inl ⟨rfl, rfl⟩) ac_int
theorem r_X3_init_26 : IOK WB AD SR FW TB md_X3_init 26 (.putfield 20, 3, 6, 2, []) := io_put (by decide +kernel) fo_RX3_20 po_RX3_1_3_6_2
theorem r_X3_init_29 : IOK WB AD SR FW TB md_X3_init 29 (.aload_n 0, 0, 0, 0, []) := io_plain (by decide +kernel) rfl
theorem r_X3_init_30 : IOK WB AD SR FW TB md_X3_init 30 (.bipush 64, 0, 0, 0, []) := io_plain (by decide +kernel) rfl
theorem r_X3_init_32 : IOK WB AD SR FW TB md_X3_init 32 (.newarray .int, 0, 0, 0, []) := io_newa (by decide +kernel) (Or.inl ⟨rfl, rfl⟩) ac_int
theorem r_X3_init_34 : IOK WB AD SR FW TB md_X3_init 34 (.putfield 23, 3, 7, 2, []) := io_put (by decide +kernel) fo_RX3_23 po_RX3_1_3_7_2
theorem r_X3_init_37 : IOK WB AD SR FW TB md_X3_init 37 (.aload_n 0, 0, 0, 0, []) := io_plain (by decide +kernel) rfl
theorem r_X3_init_38 : IOK WB AD SR FW TB md_X3_init 38 (.bipush 64, 0, 0, 0, []) := io_plain (by decide +kernel) rfl
theorem r_X3_init_40 : IOK WB AD SR FW TB md_X3_init 40 (.newarray .int, 0, 0, 0, []) := io_newa (by decide +kernel) (Or.inl ⟨rfl, rfl⟩) ac_int
theorem r_X3_init_42 : IOK WB AD SR FW TB md_X3_init 42 (.putfield 26, 3, 8, 2, []) := io_put (by decide +kernel) fo_RX3_26 po_RX3_1_3_8_2
theorem r_X3_init_45 : IOK WB AD SR FW TB md_X3_init 45 (.aload_n 0, 0, 0, 0, []) := io_plain (by decide +kernel) rfl
theorem r_X3_init_46 : IOK WB AD SR FW TB md_X3_init 46 (.bipush 64, 0, 0, 0, []) := io_plain (by decide +kernel) rfl
theorem r_X3_init_48 : IOK WB AD SR FW TB md_X3_init 48 (.newarray .int, 0, 0, 0, []) := io_newa (by decide +kernel) (Or.inl ⟨rfl, rfl⟩) ac_int
theorem r_X3_init_50 : IOK WB AD SR FW TB md_X3_init 50 (.putfield 29, 3, 9, 2, []) := io_put (by decide +kernel) fo_RX3_29 po_RX3_1_3_9_2
theorem r_X3_init_53 : IOK WB AD SR FW TB md_X3_init 53 (.aload_n 0, 0, 0, 0, []) := io_plain (by decide +kernel) rfl
theorem r_X3_init_54 : IOK WB AD SR FW TB md_X3_init 54 (.bipush 64, 0, 0, 0, []) := io_plain (by decide +kernel) rfl
theorem r_X3_init_56 : IOK WB AD SR FW TB md_X3_init 56 (.newarray .int, 0, 0, 0, []) := io_newa (by decide +kernel) (Or.inl ⟨rfl, rfl⟩) ac_int
theorem r_X3_init_58 : IOK WB AD SR FW TB md_X3_init 58 (.putfield 32, 3, 10, 2, []) := io_put (by decide +kernel) fo_RX3_32 po_RX3_1_3_10_2
theorem r_X3_init_61 : IOK WB AD SR FW TB md_X3_init 61 (.aload_n 0, 0, 0, 0, []) := io_plain (by decide +kernel) rfl
theorem r_X3_init_62 : IOK WB AD SR FW TB md_X3_init 62 (.bipush 64, 0, 0, 0, []) := io_plain (by decide +kernel) rfl
theorem r_X3_init_64 : IOK WB AD SR FW TB md_X3_init 64 (.newarray .int, 0, 0, 0, []) := io_newa (by decide +kernel) (Or.inl ⟨rfl, rfl⟩) ac_int
theorem r_X3_init_66 : IOK WB AD SR FW TB md_X3_init 66 (.putfield 35, 3, 11, 2, []) := io_put (by decide +kernel) fo_RX3_35 po_RX3_1_3_11_2
theorem r_X3_init_69 : IOK WB AD SR FW TB md_X3_init 69 (.aload_n 0, 0, 0, 0, []) := io_plain (by decide +kernel) rfl
theorem r_X3_init_70 : IOK WB AD SR FW TB md_X3_init 70 (.aload_n 1, 0, 0, 0, []) := io_plain (by decide +kernel) rfl
theorem r_X3_init_71 : IOK WB AD SR FW TB md_X3_init 71 (.putfield 38, 3, 0, 2, []) := io_put (by decide +kernel) fo_RX3_38 po_RX3_1_3_0_2
theorem r_X3_init_74 : IOK WB AD SR FW TB md_X3_init 74 (.aload_n 0, 0, 0, 0, []) := io_plain (by decide +kernel) rfl
theorem r_X3_init_75 : IOK WB AD SR FW TB md_X3_init 75 (.aload_n 1, 0, 0, 0, []) := io_plain (by decide +kernel) rfl
theorem r_X3_init_76 : IOK WB AD SR FW TB md_X3_init 76 (.getfield 42, 8, 0, 2, []) := io_get (by decide +kernel) fo_RX3_42
theorem r_X3_init_79 : IOK WB AD SR FW TB md_X3_init 79 (.putfield 48, 3, 1, 2, []) := io_put (by decide +kernel) fo_RX3_48 po_RX3_1_3_1_2
theorem r_X3_init_82 : IOK WB AD SR FW TB md_X3_init 82 (.aload_n 0, 0, 0, 0, []) := io_plain (by decide +kernel) rfl
theorem r_X3_init_83 : IOK WB AD SR FW TB md_X3_init 83 (.new 9, 4, 0, 0, [2, 2, 0, 2, 2, 2, 2, 2, 2, 0, 2, 2, 2, 2, 2, 0]) := io_new (by decide +kernel) rfl no_RX3_9
theorem r_X3_init_86 : IOK WB AD SR FW TB md_X3_init 86 (.dup, 0, 0, 0, []) := io_plain (by decide +kernel) rfl
theorem r_X3_init_87 : IOK WB AD SR FW TB md_X3_init 87 (.aload_n 1, 0, 0, 0, []) := io_plain (by decide +kernel) rfl
theorem r_X3_init_88 : IOK WB AD SR FW TB md_X3_init 88 (.invokespecial 49, 26, 4, 0, []) := io_spec (by decide +kernel) tb_X4_init (wb_1 179 rfl rfl) in_X4_init rfl rfl rfl pr_X4_init (by decide)
theorem r_X3_init_91 : IOK WB AD SR FW TB md_X3_init 91 (.putfield 52, 3, 2, 2, []) := io_put (by decide +kernel) fo_RX3_52 po_RX3_1_3_2_2
theorem r_X3_init_94 : IOK WB AD SR FW TB md_X3_init 94 (.return_, 0, 0, 0, []) := io_void (by decide +kernel) rfl
set_option maxRecDepth 100000 in
theorem ok_X3_init_0 : ∀ q ∈ tl_X3_init_0, IOK WB AD SR FW TB md_X3_init q.1 q.2 := List.forall_mem_cons.mpr ⟨r_X3_init_0, List.forall_mem_cons.mpr ⟨r_X3_init_1, List.forall_mem_cons.mpr ⟨r_X3_init_4, List.forall_mem_cons.mpr ⟨r_X3_init_5, List.forall_mem_cons.mpr ⟨r_X3_init_8, List.forall_mem_cons.mpr ⟨r_X3_init_10, List.forall_mem_cons.mpr ⟨r_X3_init_13, List.forall_mem_cons.mpr ⟨r_X3_init_14, List.forall_mem_cons.mpr ⟨r_X3_init_16, List.forall_mem_cons.mpr ⟨r_X3_init_18, List.forall_mem_cons.mpr ⟨r_X3_init_21, List.forall_mem_cons.mpr ⟨r_X3_init_22, List.forall_mem_cons.mpr ⟨r_X3_init_24, List.forall_mem_cons.mpr ⟨r_X3_init_26, List.forall_mem_cons.mpr ⟨r_X3_init_29, List.forall_mem_cons.mpr ⟨r_X3_init_30, List.forall_mem_cons.mpr ⟨r_X3_init_32, List.forall_mem_cons.mpr ⟨r_X3_init_34, List.forall_mem_cons.mpr ⟨r_X3_init_37, List.forall_mem_cons.mpr ⟨r_X3_init_38, List.forall_mem_cons.mpr ⟨r_X3_init_40, List.forall_mem_cons.mpr ⟨r_X3_init_42, List.forall_mem_cons.mpr ⟨r_X3_init_45, List.forall_mem_cons.mpr ⟨r_X3_init_46, List.forall_mem_cons.mpr ⟨r_X3_init_48, List.forall_mem_cons.mpr ⟨r_X3_init_50, List.forall_mem_cons.mpr ⟨r_X3_init_53, List.forall_mem_cons.mpr ⟨r_X3_init_54, List.forall_mem_cons.mpr ⟨r_X3_init_56, List.forall_mem_cons.mpr ⟨r_X3_init_58, List.forall_mem_cons.mpr ⟨r_X3_init_61, List.forall_mem_cons.mpr ⟨r_X3_init_62, List.forall_mem_cons.mpr ⟨r_X3_init_64, List.forall_mem_cons.mpr ⟨r_X3_init_66, List.forall_mem_cons.mpr ⟨r_X3_init_69, List.forall_mem_cons.mpr ⟨r_X3_init_70, List.forall_mem_cons.mpr ⟨r_X3_init_71, List.forall_mem_cons.mpr ⟨r_X3_init_74, List.forall_mem_cons.mpr ⟨r_X3_init_75, List.forall_mem_cons.mpr ⟨r_X3_init_76, fun _ h => absurd h List.not_mem_nil⟩⟩⟩⟩⟩⟩⟩⟩⟩⟩⟩⟩⟩⟩⟩⟩⟩⟩⟩⟩⟩⟩⟩⟩⟩⟩⟩⟩⟩⟩⟩⟩⟩⟩⟩⟩⟩⟩⟩⟩
set_option maxRecDepth 100000 in
theorem tq_X3_init_0 : tf_X3_init_0 = tl_X3_init_0.map (fun q => (q.1, stepOf NPf md_X3_init q.2)) := rfl
set_option maxRecDepth 100000 in
theorem ok_X3_init_1 : ∀ q ∈ tl_X3_init_1, IOK WB AD SR FW TB md_X3_init q.1 q.2 := List.forall_mem_cons.mpr ⟨r_X3_init_79, List.forall_mem_cons.mpr ⟨r_X3_init_82, List.forall_mem_cons.mpr ⟨r_X3_init_83, List.forall_mem_cons.mpr ⟨r_X3_init_86, List.forall_mem_cons.mpr ⟨r_X3_init_87, List.forall_mem_cons.mpr ⟨r_X3_init_88, List.forall_mem_cons.mpr ⟨r_X3_init_91, List.forall_mem_cons.mpr ⟨r_X3_init_94, fun _ h => absurd h List.not_mem_nil⟩⟩⟩⟩⟩⟩⟩⟩
set_option maxRecDepth 100000 in
theorem tq_X3_init_1 : tf_X3_init_1 = tl_X3_init_1.map (fun q => (q.1, stepOf NPf md_X3_init q.2)) := rfl
theorem ro_X3_init : RowsOK (md_X3_init, tl_X3_init) tf_X3_init := rows_app ⟨tq_X3_init_0, ok_X3_init_0⟩ (⟨tq_X3_init_1, ok_X3_init_1⟩)
theorem r_X10_isVariableNumber_0 : IOK WB AD SR FW TB md_X10_isVariableNumber 0 (.iload_n 0, 0, 0, 0, []) := io_plain (by decide +kernel) rfl
theorem r_X10_isVariableNumber_1 : IOK WB AD SR FW TB md_X10_isVariableNumber 1 (.ifCond .lt 13, 0, 0, 0, []) := io_plain (by decide +kernel) rfl
theorem r_X10_isVariableNumber_4 : IOK WB AD SR FW TB md_X10_isVariableNumber 4 (.iload_n 0, 0, 0, 0, []) := io_plain (by decide +kernel) rfl
theorem r_X10_isVariableNumber_5 : IOK WB AD SR FW TB md_X10_isVariableNumber 5 (.bipush 10, 0, 0, 0, []) := io_plain (by decide +kernel) rfl
theorem r_X10_isVariableNumber_7 : IOK WB AD SR FW TB md_X10_isVariableNumber 7 (.if_icmp .ge 7, 0, 0, 0, []) := io_plain (by decide +kernel) rfl
theorem r_X10_isVariableNumber_10 : IOK WB AD SR FW TB md_X10_isVariableNumber 10 (.iconst 1, 0, 0, 0, []) := io_plain (by decide +kernel) rfl
theorem r_X10_isVariableNumber_11 : IOK WB AD SR FW TB md_X10_isVariableNumber 11 (.goto 4, 0, 0, 0, []) := io_plain (by decide +kernel) rfl
theorem r_X10_isVariableNumber_15 : IOK WB AD SR FW TB md_X10_isVariableNumber 15 (.ireturn, 0, 0, 0, []) := io_plain (by decide +kernel) rfl
set_option maxRecDepth 100000 in
theorem ok_X10_isVariableNumber_0 : ∀ q ∈ tl_X10_isVariableNumber, IOK WB AD SR FW TB md_X10_isVariableNumber q.1 q.2 := List.forall_mem_cons.mpr ⟨r_X10_isVariableNumber_0, List.forall_mem_cons.mpr ⟨r_X10_isVariableNumber_1, List.forall_mem_cons.mpr ⟨r_X10_isVariableNumber_4, List.forall_mem_cons.mpr ⟨r_X10_isVariableNumber_5, List.forall_mem_cons.mpr ⟨r_X10_isVariableNumber_7, List.forall_mem_cons.mpr ⟨r_X10_isVariableNumber_10, List.forall_mem_cons.mpr ⟨r_X10_isVariableNumber_11, List.forall_mem_cons.mpr ⟨r_X10_isVariableNumber_15, fun _ h => absurd h List.not_mem_nil⟩⟩⟩⟩⟩⟩⟩⟩
set_option maxRecDepth 100000 in
theorem tq_X10_isVariableNumber_0 : tf_X10_isVariableNumber = tl_X10_isVariableNumber.map (fun q => (q.1, stepOf NPf md_X10_isVariableNumber q.2)) := rfl
theorem ro_X10_isVariableNumber : RowsOK (md_X10_isVariableNumber, tl_X10_isVariableNumber) tf_X10_isVariableNumber := ⟨tq_X10_isVariableNumber_0, ok_X10_isVariableNumber_0⟩
theorem r_X2_partAt_0 : IOK WB AD SR FW TB md_X2_partAt 0 (.sipush 620, 0, 0, 0, []) := io_plain (by decide +kernel) rfl
theorem r_X2_partAt_3 : IOK WB AD SR FW TB md_X2_partAt 3 (.iload_n 1, 0, 0, 0, []) := io_plain (by decide +kernel) rfl
theorem r_X2_partAt_4 : IOK WB AD SR FW TB md_X2_partAt 4 (.iconst 4, 0, 0, 0, []) := io_plain (by decide +kernel) rfl
theorem r_X2_partAt_5 : IOK WB AD SR FW TB md_X2_partAt 5 (.imul, 0, 0, 0, []) := io_plain (by decide +kernel) rfl
theorem r_X2_partAt_6 : IOK WB AD SR FW TB md_X2_partAt 6 (.iload_n 2, 0, 0, 0, []) := io_plain (by decide +kernel) rfl
theorem r_X2_partAt_7 : IOK WB AD SR FW TB md_X2_partAt 7 (.iadd, 0, 0, 0, []) := io_plain (by decide +kernel) rfl
theorem r_X2_partAt_8 : IOK WB AD SR FW TB md_X2_partAt 8 (.bipush 20, 0, 0, 0, []) := io_plain (by decide +kernel) rfl
theorem r_X2_partAt_10 : IOK WB AD SR FW TB md_X2_partAt 10 (.imul, 0, 0, 0, []) := io_plain (by decide +kernel) rfl
theorem r_X2_partAt_11 : IOK WB AD SR FW TB md_X2_partAt 11 (.iadd, 0, 0, 0, []) := io_plain (by decide +kernel) rfl
theorem r_X2_partAt_12 : IOK WB AD SR FW TB md_X2_partAt 12 (.ireturn, 0, 0, 0, []) := io_plain (by decide +kernel) rfl
set_option maxRecDepth 100000 in
theorem ok_X2_partAt_0 : ∀ q ∈ tl_X2_partAt, IOK WB AD SR FW TB md_X2_partAt q.1 q.2 := List.forall_mem_cons.mpr ⟨r_X2_partAt_0, List.forall_mem_cons.mpr ⟨r_X2_partAt_3, List.forall_mem_cons.mpr ⟨r_X2_partAt_4, List.forall_mem_cons.mpr ⟨r_X2_partAt_5, List.forall_mem_cons.mpr ⟨r_X2_partAt_6, List.forall_mem_cons.mpr ⟨r_X2_partAt_7, List.forall_mem_cons.mpr ⟨r_X2_partAt_8, List.forall_mem_cons.mpr ⟨r_X2_partAt_10, List.forall_mem_cons.mpr ⟨r_X2_partAt_11, List.forall_mem_cons.mpr ⟨r_X2_partAt_12, fun _ h => absurd h List.not_mem_nil⟩⟩⟩⟩⟩⟩⟩⟩⟩⟩
set_option maxRecDepth 100000 in
theorem tq_X2_partAt_0 : tf_X2_partAt = tl_X2_partAt.map (fun q => (q.1, stepOf NPf md_X2_partAt q.2)) := rfl
theorem ro_X2_partAt : RowsOK (md_X2_partAt, tl_X2_partAt) tf_X2_partAt := ⟨tq_X2_partAt_0, ok_X2_partAt_0⟩
theorem r_X0_init_0 : IOK WB AD SR FW TB md_X0_init 0 (.aload_n 0, 0, 0, 0, []) := io_plain (by decide +kernel) rfl
theorem r_X0_init_1 : IOK WB AD SR FW TB md_X0_init 1 (.invokespecial 3, 1000, 0, 0, []) := io_obj (by decide +kernel) (wb_2 203 rfl rfl) ob_1 ob_2
theorem r_X0_init_4 : IOK WB AD SR FW TB md_X0_init 4 (.aload_n 0, 0, 0, 0, []) := io_plain (by decide +kernel) rfl
theorem r_X0_init_5 : IOK WB AD SR FW TB md_X0_init 5 (.bipush 60, 0, 0, 0, []) := io_plain (by decide +kernel) rfl
theorem r_X0_init_7 : IOK WB AD SR FW TB md_X0_init 7 (.newarray .int, 0, 0, 0, []) := io_newa (by decide +kernel) (Or.inl ⟨rfl, rfl⟩) ac_int
theorem r_X0_init_9 : IOK WB AD SR FW TB md_X0_init 9 (.putfield 9, 0, 5, 2, []) := io_put (by decide +kernel) fo_RX0_9 po_RX0_1_0_5_2
theorem r_X0_init_12 : IOK WB AD SR FW TB md_X0_init 12 (.aload_n 0, 0, 0, 0, []) := io_plain (by decide +kernel) rfl
theorem r_X0_init_13 : IOK WB AD SR FW TB md_X0_init 13 (.bipush 60, 0, 0, 0, []) := io_plain (by decide +kernel) rfl
theorem r_X0_init_15 : IOK WB AD SR FW TB md_X0_init 15 (.newarray .int, 0, 0, 0, []) := io_newa (by decide +kernel) (Or.inl ⟨rfl, rfl⟩) ac_int
theorem r_X0_init_17 : IOK WB AD SR FW TB md_X0_init 17 (.putfield 15, 0, 6, 2, []) := io_put (by decide +kernel) fo_RX0_15 po_RX0_1_0_6_2
theorem r_X0_init_20 : IOK WB AD SR FW TB md_X0_init 20 (.aload_n 0, 0, 0, 0, []) := io_plain (by decide +kernel) rfl
theorem r_X0_init_21 : IOK WB AD SR FW TB md_X0_init 21 (.bipush 60, 0, 0, 0, []) := io_plain (by decide +kernel) rfl
theorem r_X0_init_23 : IOK WB AD SR FW TB md_X0_init 23 (.newarray .int, 0, 0, 0, []) := io_newa (by decide +kernel) (Or.inl ⟨rfl, rfl⟩) ac_int
theorem r_X0_init_25 : IOK WB AD SR FW TB md_X0_init 25 (.putfield 18, 0, 7, 2, []) := io_put (by decide +kernel) fo_RX0_18 po_RX0_1_0_7_2
theorem r_X0_init_28 : IOK WB AD SR FW TB md_X0_init 28 (.aload_n 0, 0, 0, 0, []) := io_plain (by decide +kernel) rfl
theorem r_X0_init_29 : IOK WB AD SR FW TB md_X0_init 29 (.bipush 20, 0, 0, 0, []) := io_plain (by decide +kernel) rfl
theorem r_X0_init_31 : IOK WB AD SR FW TB md_X0_init 31 (.newarray .int, 0, 0, 0, []) := io_newa (by decide +kernel) (Or.inl ⟨rfl, rfl⟩) ac_int
theorem r_X0_init_33 : IOK WB AD SR FW TB md_X0_init 33 (.putfield 21, 0, 9, 2, []) := io_put (by decide +kernel) fo_RX0_21 po_RX0_1_0_9_2
theorem r_X0_init_36 : IOK WB AD SR FW TB md_X0_init 36 (.aload_n 0, 0, 0, 0, []) := io_plain (by decide +kernel) rfl
theorem r_X0_init_37 : IOK WB AD SR FW TB md_X0_init 37 (.bipush 21, 0, 0, 0, []) := io_plain (by decide +kernel) rfl
theorem r_X0_init_39 : IOK WB AD SR FW TB md_X0_init 39 (.newarray .long, 2, 0, 0, []) := io_newa (by decide +kernel) (Or.inr (Or.inr ⟨rfl, rfl⟩)) ac_long
theorem r_X0_init_41 : IOK WB AD SR FW TB md_X0_init 41 (.putfield 24, 0, 13, 2, []) := io_put (by decide +kernel) fo_RX0_24 po_RX0_1_0_13_2
theorem r_X0_init_44 : IOK WB AD SR FW TB md_X0_init 44 (.aload_n 0, 0, 0, 0, []) := io_plain (by decide +kernel) rfl
theorem r_X0_init_45 : IOK WB AD SR FW TB md_X0_init 45 (.aload_n 1, 0, 0, 0, []) := io_plain (by decide +kernel) rfl
theorem r_X0_init_46 : IOK WB AD SR FW TB md_X0_init 46 (.getfield 28, 6, 0, 2, []) := io_get (by decide +kernel) fo_RX0_28
theorem r_X0_init_49 : IOK WB AD SR FW TB md_X0_init 49 (.putfield 34, 0, 0, 2, []) := io_put (by decide +kernel) fo_RX0_34 po_RX0_1_0_0_2
theorem r_X0_init_52 : IOK WB AD SR FW TB md_X0_init 52 (.aload_n 0, 0, 0, 0, []) := io_plain (by decide +kernel) rfl
theorem r_X0_init_53 : IOK WB AD SR FW TB md_X0_init 53 (.aload_n 0, 0, 0, 0, []) := io_plain (by decide +kernel) rfl
theorem r_X0_init_54 : IOK WB AD SR FW TB md_X0_init 54 (.getfield 34, 0, 0, 2, []) := io_get (by decide +kernel) fo_RX0_34
theorem r_X0_init_57 : IOK WB AD SR FW TB md_X0_init 57 (.getfield 35, 8, 0, 2, []) := io_get (by decide +kernel) fo_RX0_35
theorem r_X0_init_60 : IOK WB AD SR FW TB md_X0_init 60 (.putfield 41, 0, 1, 2, []) := io_put (by decide +kernel) fo_RX0_41 po_RX0_1_0_1_2
theorem r_X0_init_63 : IOK WB AD SR FW TB md_X0_init 63 (.aload_n 0, 0, 0, 0, []) := io_plain (by decide +kernel) rfl
theorem r_X0_init_64 : IOK WB AD SR FW TB md_X0_init 64 (.aload_n 1, 0, 0, 0, []) := io_plain (by decide +kernel) rfl
theorem r_X0_init_65 : IOK WB AD SR FW TB md_X0_init 65 (.getfield 42, 6, 1, 2, []) := io_get (by decide +kernel) fo_RX0_42
theorem r_X0_init_68 : IOK WB AD SR FW TB md_X0_init 68 (.putfield 46, 0, 2, 2, []) := io_put (by decide +kernel) fo_RX0_46 po_RX0_1_0_2_2
theorem r_X0_init_71 : IOK WB AD SR FW TB md_X0_init 71 (.aload_n 0, 0, 0, 0, []) := io_plain (by decide +kernel) rfl
theorem r_X0_init_72 : IOK WB AD SR FW TB md_X0_init 72 (.aload_n 1, 0, 0, 0, []) := io_plain (by decide +kernel) rfl
theorem r_X0_init_73 : IOK WB AD SR FW TB md_X0_init 73 (.putfield 47, 0, 3, 2, []) := io_put (by decide +kernel) fo_RX0_47 po_RX0_1_0_3_2
theorem r_X0_init_76 : IOK WB AD SR FW TB md_X0_init 76 (.return_, 0, 0, 0, []) := io_void (by decide +kernel) rfl
set_option maxRecDepth 100000 in
theorem ok_X0_init_0 : ∀ q ∈ tl_X0_init, IOK WB AD SR FW TB md_X0_init q.1 q.2 := List.forall_mem_cons.mpr ⟨r_X0_init_0, List.forall_mem_cons.mpr ⟨r_X0_init_1, List.forall_mem_cons.mpr ⟨r_X0_init_4, List.forall_mem_cons.mpr ⟨r_X0_init_5, List.forall_mem_cons.mpr ⟨r_X0_init_7, List.forall_mem_cons.mpr ⟨r_X0_init_9, List.forall_mem_cons.mpr ⟨r_X0_init_12, List.forall_mem_cons.mpr ⟨r_X0_init_13, List.forall_mem_cons.mpr ⟨r_X0_init_15, List.forall_mem_cons.mpr ⟨r_X0_init_17, List.forall_mem_cons.mpr ⟨r_X0_init_20, List.forall_mem_cons.mpr ⟨r_X0_init_21, List.forall_mem_cons.mpr ⟨r_X0_init_23, List.forall_mem_cons.mpr ⟨r_X0_init_25, List.forall_mem_cons.mpr ⟨r_X0_init_28, List.forall_mem_cons.mpr ⟨r_X0_init_29, List.forall_mem_cons.mpr ⟨r_X0_init_31, List.forall_mem_cons.mpr ⟨r_X0_init_33, List.forall_mem_cons.mpr ⟨r_X0_init_36, List.forall_mem_cons.mpr ⟨r_X0_init_37, List.forall_mem_cons.mpr ⟨r_X0_init_39, List.forall_mem_cons.mpr ⟨r_X0_init_41, List.forall_mem_cons.mpr ⟨r_X0_init_44, List.forall_mem_cons.mpr ⟨r_X0_init_45, List.forall_mem_cons.mpr ⟨r_X0_init_46, List.forall_mem_cons.mpr ⟨r_X0_init_49, List.forall_mem_cons.mpr ⟨r_X0_init_52, List.forall_mem_cons.mpr ⟨r_X0_init_53, List.forall_mem_cons.mpr ⟨r_X0_init_54, List.forall_mem_cons.mpr ⟨r_X0_init_57, List.forall_mem_cons.mpr ⟨r_X0_init_60, List.forall_mem_cons.mpr ⟨r_X0_init_63, List.forall_mem_cons.mpr ⟨r_X0_init_64, List.forall_mem_cons.mpr ⟨r_X0_init_65, List.forall_mem_cons.mpr ⟨r_X0_init_68, List.forall_mem_cons.mpr ⟨r_X0_init_71, List.forall_mem_cons.mpr ⟨r_X0_init_72, List.forall_mem_cons.mpr ⟨r_X0_init_73, List.forall_mem_cons.mpr ⟨r_X0_init_76, fun _ h => absurd h List.not_mem_nil⟩⟩⟩⟩⟩⟩⟩⟩⟩⟩⟩⟩⟩⟩⟩⟩⟩⟩⟩⟩⟩⟩⟩⟩⟩⟩⟩⟩⟩⟩⟩⟩⟩⟩⟩⟩⟩⟩⟩
set_option maxRecDepth 100000 in
theorem tq_X0_init_0 : tf_X0_init = tl_X0_init.map (fun q => (q.1, stepOf NPf md_X0_init q.2)) := rfl
theorem ro_X0_init : RowsOK (md_X0_init, tl_X0_init) tf_X0_init := ⟨tq_X0_init_0, ok_X0_init_0⟩
theorem r_X6_init_0 : IOK WB AD SR FW TB md_X6_init 0 (.aload_n 0, 0, 0, 0, []) := io_plain (by decide +kernel) rfl
theorem r_X6_init_1 : IOK WB AD SR FW TB md_X6_init 1 (.invokespecial 3, 1000, 0, 0, []) := io_obj (by decide +kernel) (wb_2 57 rfl rfl) ob_1 ob_2
theorem r_X6_init_4 : IOK WB AD SR FW TB md_X6_init 4 (.aload_n 0, 0, 0, 0, []) := io_plain (by decide +kernel) rfl
theorem r_X6_init_5 : IOK WB AD SR FW TB md_X6_init 5 (.sipush 1240, 0, 0, 0, []) := io_plain (by decide +kernel) rfl
theorem r_X6_init_8 : IOK WB AD SR FW TB md_X6_init 8 (.newarray .int, 0, 0, 0, []) := io_newa (by decide +kernel) (Or.inl ⟨rfl, rfl⟩) ac_int
theorem r_X6_init_10 : IOK WB AD SR FW TB md_X6_init 10 (.putfield 11, 6, 5, 2, []) := io_put (by decide +kernel) fo_RX6_11 po_RX6_1_6_5_2
theorem r_X6_init_13 : IOK WB AD SR FW TB md_X6_init 13 (.aload_n 0, 0, 0, 0, []) := io_plain (by decide +kernel) rfl
theorem r_X6_init_14 : IOK WB AD SR FW TB md_X6_init 14 (.sipush 1240, 0, 0, 0, []) := io_plain (by decide +kernel) rfl
theorem r_X6_init_17 : IOK WB AD SR FW TB md_X6_init 17 (.newarray .int, 0, 0, 0, []) := io_newa (by decide +kernel) (Or.inl ⟨rfl, rfl⟩) ac_int
theorem r_X6_init_19 : IOK WB AD SR FW TB md_X6_init 19 (.putfield 15, 6, 6, 2, []) := io_put (by decide +kernel) fo_RX6_15 po_RX6_1_6_6_2
theorem r_X6_init_22 : IOK WB AD SR FW TB md_X6_init 22 (.aload_n 0, 0, 0, 0, []) := io_plain (by decide +kernel) rfl
theorem r_X6_init_23 : IOK WB AD SR FW TB md_X6_init 23 (.sipush 1240, 0, 0, 0, []) := io_plain (by decide +kernel) rfl
theorem r_X6_init_26 : IOK WB AD SR FW TB md_X6_init 26 (.newarray .int, 0, 0, 0, []) := io_newa (by decide +kernel) (Or.inl ⟨rfl, rfl⟩) ac_int
theorem r_X6_init_28 : IOK WB AD SR FW TB md_X6_init 28 (.putfield 18, 6, 7, 2, []) := io_put (by decide +kernel) fo_RX6_18 po_RX6_1_6_7_2
theorem r_X6_init_31 : IOK WB AD SR FW TB md_X6_init 31 (.aload_n 0, 0, 0, 0, []) := io_plain (by decide +kernel) rfl
theorem r_X6_init_32 : IOK WB AD SR FW TB md_X6_init 32 (.sipush 1240, 0, 0, 0, []) := io_plain (by decide +kernel) rfl
theorem r_X6_init_35 : IOK WB AD SR FW TB md_X6_init 35 (.newarray .int, 0, 0, 0, []) := io_newa (by decide +kernel) (Or.inl ⟨rfl, rfl⟩) ac_int
theorem r_X6_init_37 : IOK WB AD SR FW TB md_X6_init 37 (.putfield 21, 6, 8, 2, []) := io_put (by decide +kernel) fo_RX6_21 po_RX6_1_6_8_2
theorem r_X6_init_40 : IOK WB AD SR FW TB md_X6_init 40 (.aload_n 0, 0, 0, 0, []) := io_plain (by decide +kernel) rfl
theorem r_X6_init_41 : IOK WB AD SR FW TB md_X6_init 41 (.sipush 1240, 0, 0, 0, []) := io_plain (by decide +kernel) rfl
theorem r_X6_init_44 : IOK WB AD SR FW TB md_X6_init 44 (.newarray .int, 0, 0, 0, []) := io_newa (by decide +kernel) (Or.inl ⟨rfl, rfl⟩) ac_int
theorem r_X6_init_46 : IOK WB AD SR FW TB md_X6_init 46 (.putfield 24, 6, 9, 2, []) := io_put (by decide +kernel) fo_RX6_24 po_RX6_1_6_9_2
theorem r_X6_init_49 : IOK WB AD SR FW TB md_X6_init 49 (.aload_n 0, 0, 0, 0, []) := io_plain (by decide +kernel) rfl
theorem r_X6_init_50 : IOK WB AD SR FW TB md_X6_init 50 (.aload_n 1, 0, 0, 0, []) := io_plain (by decide +kernel) rfl
theorem r_X6_init_51 : IOK WB AD SR FW TB md_X6_init 51 (.getfield 27, 2, 0, 2, []) := io_get (by decide +kernel) fo_RX6_27
theorem r_X6_init_54 : IOK WB AD SR FW TB md_X6_init 54 (.putfield 33, 6, 0, 2, []) := io_put (by decide +kernel) fo_RX6_33 po_RX6_1_6_0_2
theorem r_X6_init_57 : IOK WB AD SR FW TB md_X6_init 57 (.aload_n 0, 0, 0, 0, []) := io_plain (by decide +kernel) rfl
theorem r_X6_init_58 : IOK WB AD SR FW TB md_X6_init 58 (.aload_n 1, 0, 0, 0, []) := io_plain (by decide +kernel) rfl
theorem r_X6_init_59 : IOK WB AD SR FW TB md_X6_init 59 (.putfield 34, 6, 1, 2, []) := io_put (by decide +kernel) fo_RX6_34 po_RX6_1_6_1_2
theorem r_X6_init_62 : IOK WB AD SR FW TB md_X6_init 62 (.aload_n 0, 0, 0, 0, []) := io_plain (by decide +kernel) rfl
theorem r_X6_init_63 : IOK WB AD SR FW TB md_X6_init 63 (.aload_n 2, 0, 0, 0, []) := io_plain (by decide +kernel) rfl
theorem r_X6_init_64 : IOK WB AD SR FW TB md_X6_init 64 (.putfield 38, 6, 2, 2, []) := io_put (by decide +kernel) fo_RX6_38 po_RX6_1_6_2_2
theorem r_X6_init_67 : IOK WB AD SR FW TB md_X6_init 67 (.return_, 0, 0, 0, []) := io_void (by decide +kernel) rfl
set_option maxRecDepth 100000 in
theorem ok_X6_init_0 : ∀ q ∈ tl_X6_init, IOK WB AD SR FW TB md_X6_init q.1 q.2 := List.forall_mem_cons.mpr ⟨r_X6_init_0, List.forall_mem_cons.mpr ⟨r_X6_init_1, List.forall_mem_cons.mpr ⟨r_X6_init_4, List.forall_mem_cons.mpr ⟨r_X6_init_5, List.forall_mem_cons.mpr ⟨r_X6_init_8, List.forall_mem_cons.mpr ⟨r_X6_init_10, List.forall_mem_cons.mpr ⟨r_X6_init_13, List.forall_mem_cons.mpr ⟨r_X6_init_14, List.forall_mem_cons.mpr ⟨r_X6_init_17, List.forall_mem_cons.mpr ⟨r_X6_init_19, List.forall_mem_cons.mpr ⟨r_X6_init_22, List.forall_mem_cons.mpr ⟨r_X6_init_23, List.forall_mem_cons.mpr ⟨r_X6_init_26, List.forall_mem_cons.mpr ⟨r_X6_init_28, List.forall_mem_cons.mpr ⟨r_X6_init_31, List.forall_mem_cons.mpr ⟨r_X6_init_32, List.forall_mem_cons.mpr ⟨r_X6_init_35, List.forall_mem_cons.mpr ⟨r_X6_init_37, List.forall_mem_cons.mpr ⟨r_X6_init_40, List.forall_mem_cons.mpr ⟨r_X6_init_41, List.forall_mem_cons.mpr ⟨r_X6_init_44, List.forall_mem_cons.mpr ⟨r_X6_init_46, List.forall_mem_cons.mpr ⟨r_X6_init_49, List.forall_mem_cons.mpr ⟨r_X6_init_50, List.forall_mem_cons.mpr ⟨r_X6_init_51, List.forall_mem_cons.mpr ⟨r_X6_init_54, List.forall_mem_cons.mpr ⟨r_X6_init_57, List.forall_mem_cons.mpr ⟨r_X6_init_58, List.forall_mem_cons.mpr ⟨r_X6_init_59, List.forall_mem_cons.mpr ⟨r_X6_init_62, List.forall_mem_cons.mpr ⟨r_X6_init_63, List.forall_mem_cons.mpr ⟨r_X6_init_64, List.forall_mem_cons.mpr ⟨r_X6_init_67, fun _ h => absurd h List.not_mem_nil⟩⟩⟩⟩⟩⟩⟩⟩⟩⟩⟩⟩⟩⟩⟩⟩⟩⟩⟩⟩⟩⟩⟩⟩⟩⟩⟩⟩⟩⟩⟩⟩⟩
set_option maxRecDepth 100000 in
theorem tq_X6_init_0 : tf_X6_init = tl_X6_init.map (fun q => (q.1, stepOf NPf md_X6_init q.2)) := rfl
theorem ro_X6_init : RowsOK (md_X6_init, tl_X6_init) tf_X6_init := ⟨tq_X6_init_0, ok_X6_init_0⟩
theorem r_X8_giveNothing_0 : IOK WB AD SR FW TB md_X8_giveNothing 0 (.aload_n 0, 0, 0, 0, []) := io_plain (by decide +kernel) rfl
theorem r_X8_giveNothing_1 : IOK WB AD SR FW TB md_X8_giveNothing 1 (.getfield 28, 8, 7, 2, []) := io_get (by decide +kernel) fo_RX8_28
theorem r_X8_giveNothing_4 : IOK WB AD SR FW TB md_X8_giveNothing 4 (.iconst (-1), 0, 0, 0, []) := io_plain (by decide +kernel) rfl
theorem r_X8_giveNothing_5 : IOK WB AD SR FW TB md_X8_giveNothing 5 (.invokestatic 51, 1, 0, 0, []) := io_stat (by decide +kernel) tb_J7_fill_53178 (Or.inl (wb_3 212 rfl rfl)) st_J7_fill_53178 pr_J7_fill_53178
theorem r_X8_giveNothing_8 : IOK WB AD SR FW TB md_X8_giveNothing 8 (.return_, 0, 0, 0, []) := io_void (by decide +kernel) rfl
set_option maxRecDepth 100000 in
theorem ok_X8_giveNothing_0 : ∀ q ∈ tl_X8_giveNothing, IOK WB AD SR FW TB md_X8_giveNothing q.1 q.2 := List.forall_mem_cons.mpr ⟨r_X8_giveNothing_0, List.forall_mem_cons.mpr ⟨r_X8_giveNothing_1, List.forall_mem_cons.mpr ⟨r_X8_giveNothing_4, List.forall_mem_cons.mpr ⟨r_X8_giveNothing_5, List.forall_mem_cons.mpr ⟨r_X8_giveNothing_8, fun _ h => absurd h List.not_mem_nil⟩⟩⟩⟩⟩
set_option maxRecDepth 100000 in
theorem tq_X8_giveNothing_0 : tf_X8_giveNothing = tl_X8_giveNothing.map (fun q => (q.1, stepOf NPf md_X8_giveNothing q.2)) := rfl
theorem ro_X8_giveNothing : RowsOK (md_X8_giveNothing, tl_X8_giveNothing) tf_X8_giveNothing := ⟨tq_X8_giveNothing_0, ok_X8_giveNothing_0⟩
theorem r_X8_canBeLeft_0 : IOK WB AD SR FW TB md_X8_canBeLeft 0 (.aload_n 0, 0, 0, 0, []) := io_plain (by decide +kernel) rfl
theorem r_X8_canBeLeft_1 : IOK WB AD SR FW TB md_X8_canBeLeft 1 (.getfield 9, 8, 1, 2, []) := io_get (by decide +kernel) fo_RX8_9
theorem r_X8_canBeLeft_4 : IOK WB AD SR FW TB md_X8_canBeLeft 4 (.iload_n 1, 0, 0, 0, []) := io_plain (by decide +kernel) rfl
theorem r_X8_canBeLeft_5 : IOK WB AD SR FW TB md_X8_canBeLeft 5 (.iaload, 0, 0, 0, []) := io_plain (by decide +kernel) rfl
theorem r_X8_canBeLeft_6 : IOK WB AD SR FW TB md_X8_canBeLeft 6 (.bipush 32, 0, 0, 0, []) := io_plain (by decide +kernel) rfl
theorem r_X8_canBeLeft_8 : IOK WB AD SR FW TB md_X8_canBeLeft 8 (.if_icmp .lt 15, 0, 0, 0, []) := io_plain (by decide +kernel) rfl
theorem r_X8_canBeLeft_11 : IOK WB AD SR FW TB md_X8_canBeLeft 11 (.aload_n 0, 0, 0, 0, []) := io_plain (by decide +kernel) rfl
theorem r_X8_canBeLeft_12 : IOK WB AD SR FW TB md_X8_canBeLeft 12 (.iload_n 1, 0, 0, 0, []) := io_plain (by decide +kernel) rfl
theorem r_X8_canBeLeft_13 : IOK WB AD SR FW TB md_X8_canBeLeft 13 (.invokevirtual 75, 36, 8, 0, []) := io_virt (by decide +kernel) tb_X8_canBePattern (Or.inl (wb_4 24 rfl rfl)) in_X8_canBePattern se_X8_canBePattern ⟨_, rfl, rfl⟩ pr_X8_canBePattern (by decide)
theorem r_X8_canBeLeft_16 : IOK WB AD SR FW TB md_X8_canBeLeft 16 (.ifCond .eq 7, 0, 0, 0, []) := io_plain (by decide +kernel) rfl
theorem r_X8_canBeLeft_19 : IOK WB AD SR FW TB md_X8_canBeLeft 19 (.iconst 1, 0, 0, 0, []) := io_plain (by decide +kernel) rfl
theorem r_X8_canBeLeft_20 : IOK WB AD SR FW TB md_X8_canBeLeft 20 (.goto 4, 0, 0, 0, []) := io_plain (by decide +kernel) rfl
theorem r_X8_canBeLeft_24 : IOK WB AD SR FW TB md_X8_canBeLeft 24 (.ireturn, 0, 0, 0, []) := io_plain (by decide +kernel) rfl
set_option maxRecDepth 100000 in
theorem ok_X8_canBeLeft_0 : ∀ q ∈ tl_X8_canBeLeft, IOK WB AD SR FW TB md_X8_canBeLeft q.1 q.2 := List.forall_mem_cons.mpr ⟨r_X8_canBeLeft_0, List.forall_mem_cons.mpr ⟨r_X8_canBeLeft_1, List.forall_mem_cons.mpr ⟨r_X8_canBeLeft_4, List.forall_mem_cons.mpr ⟨r_X8_canBeLeft_5, List.forall_mem_cons.mpr ⟨r_X8_canBeLeft_6, List.forall_mem_cons.mpr ⟨r_X8_canBeLeft_8, List.forall_mem_cons.mpr ⟨r_X8_canBeLeft_11, List.forall_mem_cons.mpr ⟨r_X8_canBeLeft_12, List.forall_mem_cons.mpr ⟨r_X8_canBeLeft_13, List.forall_mem_cons.mpr ⟨r_X8_canBeLeft_16, List.forall_mem_cons.mpr ⟨r_X8_canBeLeft_19, List.forall_mem_cons.mpr ⟨r_X8_canBeLeft_20, List.forall_mem_cons.mpr ⟨r_X8_canBeLeft_24, fun _ h => absurd h List.not_mem_nil⟩⟩⟩⟩⟩⟩⟩⟩⟩⟩⟩⟩⟩
set_option maxRecDepth 100000 in
theorem tq_X8_canBeLeft_0 : tf_X8_canBeLeft = tl_X8_canBeLeft.map (fun q => (q.1, stepOf NPf md_X8_canBeLeft q.2)) := rfl
theorem ro_X8_canBeLeft : RowsOK (md_X8_canBeLeft, tl_X8_canBeLeft) tf_X8_canBeLeft := ⟨tq_X8_canBeLeft_0, ok_X8_canBeLeft_0⟩
theorem r_X1_init_0 : IOK WB AD SR FW TB md_X1_init 0 (.aload_n 0, 0, 0, 0, []) := io_plain (by decide +kernel) rfl
theorem r_X1_init_1 : IOK WB AD SR FW TB md_X1_init 1 (.invokespecial 3, 1000, 0, 0, []) := io_obj (by decide +kernel) (wb_2 143 rfl rfl) ob_1 ob_2
theorem r_X1_init_4 : IOK WB AD SR FW TB md_X1_init 4 (.aload_n 0, 0, 0, 0, []) := io_plain (by decide +kernel) rfl
theorem r_X1_init_5 : IOK WB AD SR FW TB md_X1_init 5 (.bipush 24, 0, 0, 0, []) := io_plain (by decide +kernel) rfl
theorem r_X1_init_7 : IOK WB AD SR FW TB md_X1_init 7 (.newarray .int, 0, 0, 0, []) := io_newa (by decide +kernel) (Or.inl ⟨rfl, rfl⟩) ac_int
theorem r_X1_init_9 : IOK WB AD SR FW TB md_X1_init 9 (.putfield 9, 1, 4, 2, []) := io_put (by decide +kernel) fo_RX1_9 po_RX1_1_1_4_2
theorem r_X1_init_12 : IOK WB AD SR FW TB md_X1_init 12 (.aload_n 0, 0, 0, 0, []) := io_plain (by decide +kernel) rfl
theorem r_X1_init_13 : IOK WB AD SR FW TB md_X1_init 13 (.bipush 24, 0, 0, 0, []) := io_plain (by decide +kernel) rfl
theorem r_X1_init_15 : IOK WB AD SR FW TB md_X1_init 15 (.newarray .int, 0, 0, 0, []) := io_newa (by decide +kernel) (Or.inl ⟨rfl, rfl⟩) ac_int
theorem r_X1_init_17 : IOK WB AD SR FW TB md_X1_init 17 (.putfield 15, 1, 5, 2, []) := io_put (by decide +kernel) fo_RX1_15 po_RX1_1_1_5_2
theorem r_X1_init_20 : IOK WB AD SR FW TB md_X1_init 20 (.aload_n 0, 0, 0, 0, []) := io_plain (by decide +kernel) rfl
theorem r_X1_init_21 : IOK WB AD SR FW TB md_X1_init 21 (.bipush 24, 0, 0, 0, []) := io_plain (by decide +kernel) rfl
theorem r_X1_init_23 : IOK WB AD SR FW TB md_X1_init 23 (.newarray .int, 0, 0, 0, []) := io_newa (by decide +kernel) (Or.inl ⟨rfl, rfl⟩) ac_int
theorem r_X1_init_25 : IOK WB AD SR FW TB md_X1_init 25 (.putfield 18, 1, 6, 2, []) := io_put (by decide +kernel) fo_RX1_18 po_RX1_1_1_6_2
theorem r_X1_init_28 : IOK WB AD SR FW TB md_X1_init 28 (.aload_n 0, 0, 0, 0, []) := io_plain (by decide +kernel) rfl
theorem r_X1_init_29 : IOK WB AD SR FW TB md_X1_init 29 (.aload_n 1, 0, 0, 0, []) := io_plain (by decide +kernel) rfl
theorem r_X1_init_30 : IOK WB AD SR FW TB md_X1_init 30 (.getfield 21, 9, 0, 2, []) := io_get (by decide +kernel) fo_RX1_21
theorem r_X1_init_33 : IOK WB AD SR FW TB md_X1_init 33 (.putfield 27, 1, 0, 2, []) := io_put (by decide +kernel) fo_RX1_27 po_RX1_1_1_0_2
theorem r_X1_init_36 : IOK WB AD SR FW TB md_X1_init 36 (.aload_n 0, 0, 0, 0, []) := io_plain (by decide +kernel) rfl
theorem r_X1_init_37 : IOK WB AD SR FW TB md_X1_init 37 (.aload_n 1, 0, 0, 0, []) := io_plain (by decide +kernel) rfl
theorem r_X1_init_38 : IOK WB AD SR FW TB md_X1_init 38 (.putfield 28, 1, 1, 2, []) := io_put (by decide +kernel) fo_RX1_28 po_RX1_1_1_1_2
theorem r_X1_init_41 : IOK WB AD SR FW TB md_X1_init 41 (.return_, 0, 0, 0, []) := io_void (by decide +kernel) rfl
set_option maxRecDepth 100000 in
theorem ok_X1_init_0 : ∀ q ∈ tl_X1_init, IOK WB AD SR FW TB md_X1_init q.1 q.2 := List.forall_mem_cons.mpr ⟨r_X1_init_0, List.forall_mem_cons.mpr ⟨r_X1_init_1, List.forall_mem_cons.mpr ⟨r_X1_init_4, List.forall_mem_cons.mpr ⟨r_X1_init_5, List.forall_mem_cons.mpr ⟨r_X1_init_7, List.forall_mem_cons.mpr ⟨r_X1_init_9, List.forall_mem_cons.mpr ⟨r_X1_init_12, List.forall_mem_cons.mpr ⟨r_X1_init_13, List.forall_mem_cons.mpr ⟨r_X1_init_15, List.forall_mem_cons.mpr ⟨r_X1_init_17, List.forall_mem_cons.mpr ⟨r_X1_init_20, List.forall_mem_cons.mpr ⟨r_X1_init_21, List.forall_mem_cons.mpr ⟨r_X1_init_23, List.forall_mem_cons.mpr ⟨r_X1_init_25, List.forall_mem_cons.mpr ⟨r_X1_init_28, List.forall_mem_cons.mpr ⟨r_X1_init_29, List.forall_mem_cons.mpr ⟨r_X1_init_30, List.forall_mem_cons.mpr ⟨r_X1_init_33, List.forall_mem_cons.mpr ⟨r_X1_init_36, List.forall_mem_cons.mpr ⟨r_X1_init_37, List.forall_mem_cons.mpr ⟨r_X1_init_38, List.forall_mem_cons.mpr ⟨r_X1_init_41, fun _ h => absurd h List.not_mem_nil⟩⟩⟩⟩⟩⟩⟩⟩⟩⟩⟩⟩⟩⟩⟩⟩⟩⟩⟩⟩⟩⟩
set_option maxRecDepth 100000 in
theorem tq_X1_init_0 : tf_X1_init = tl_X1_init.map (fun q => (q.1, stepOf NPf md_X1_init q.2)) := rfl
theorem ro_X1_init : RowsOK (md_X1_init, tl_X1_init) tf_X1_init := ⟨tq_X1_init_0, ok_X1_init_0⟩
theorem r_X5_init_0 : IOK WB AD SR FW TB md_X5_init 0 (.aload_n 0, 0, 0, 0, []) := io_plain (by decide +kernel) rfl
theorem r_X5_init_1 : IOK WB AD SR FW TB md_X5_init 1 (.invokespecial 3, 1000, 0, 0, []) := io_obj (by decide +kernel) (wb_2 173 rfl rfl) ob_1 ob_2
theorem r_X5_init_4 : IOK WB AD SR FW TB md_X5_init 4 (.aload_n 0, 0, 0, 0, []) := io_plain (by decide +kernel) rfl
theorem r_X5_init_5 : IOK WB AD SR FW TB md_X5_init 5 (.sipush 240, 0, 0, 0, []) := io_plain (by decide +kernel) rfl
theorem r_X5_init_8 : IOK WB AD SR FW TB md_X5_init 8 (.newarray .int, 0, 0, 0, []) := io_newa (by decide +kernel) (Or.inl ⟨rfl, rfl⟩) ac_int
theorem r_X5_init_10 : IOK WB AD SR FW TB md_X5_init 10 (.putfield 11, 5, 4, 2, []) := io_put (by decide +kernel) fo_RX5_11 po_RX5_1_5_4_2
theorem r_X5_init_13 : IOK WB AD SR FW TB md_X5_init 13 (.aload_n 0, 0, 0, 0, []) := io_plain (by decide +kernel) rfl
theorem r_X5_init_14 : IOK WB AD SR FW TB md_X5_init 14 (.sipush 240, 0, 0, 0, []) := io_plain (by decide +kernel) rfl
theorem r_X5_init_17 : IOK WB AD SR FW TB md_X5_init 17 (.newarray .int, 0, 0, 0, []) := io_newa (by decide +kernel) (Or.inl ⟨rfl, rfl⟩) ac_int
theorem r_X5_init_19 : IOK WB AD SR FW TB md_X5_init 19 (.putfield 15, 5, 5, 2, []) := io_put (by decide +kernel) fo_RX5_15 po_RX5_1_5_5_2
theorem r_X5_init_22 : IOK WB AD SR FW TB md_X5_init 22 (.aload_n 0, 0, 0, 0, []) := io_plain (by decide +kernel) rfl
theorem r_X5_init_23 : IOK WB AD SR FW TB md_X5_init 23 (.sipush 240, 0, 0, 0, []) := io_plain (by decide +kernel) rfl
theorem r_X5_init_26 : IOK WB AD SR FW TB md_X5_init 26 (.newarray .int, 0, 0, 0, []) := io_newa (by decide +kernel) (Or.inl ⟨rfl, rfl⟩) ac_int
theorem r_X5_init_28 : IOK WB AD SR FW TB md_X5_init 28 (.putfield 18, 5, 6, 2, []) := io_put (by decide +kernel) fo_RX5_18 po_RX5_1_5_6_2
theorem r_X5_init_31 : IOK WB AD SR FW TB md_X5_init 31 (.aload_n 0, 0, 0, 0, []) := io_plain (by decide +kernel) rfl
theorem r_X5_init_32 : IOK WB AD SR FW TB md_X5_init 32 (.aload_n 1, 0, 0, 0, []) := io_plain (by decide +kernel) rfl
theorem r_X5_init_33 : IOK WB AD SR FW TB md_X5_init 33 (.getfield 21, 9, 0, 2, []) := io_get (by decide +kernel) fo_RX5_21
theorem r_X5_init_36 : IOK WB AD SR FW TB md_X5_init 36 (.putfield 27, 5, 0, 2, []) := io_put (by decide +kernel) fo_RX5_27 po_RX5_1_5_0_2
theorem r_X5_init_39 : IOK WB AD SR FW TB md_X5_init 39 (.aload_n 0, 0, 0, 0, []) := io_plain (by decide +kernel) rfl
theorem r_X5_init_40 : IOK WB AD SR FW TB md_X5_init 40 (.aload_n 1, 0, 0, 0, []) := io_plain (by decide +kernel) rfl
theorem r_X5_init_41 : IOK WB AD SR FW TB md_X5_init 41 (.putfield 28, 5, 1, 2, []) := io_put (by decide +kernel) fo_RX5_28 po_RX5_1_5_1_2
theorem r_X5_init_44 : IOK WB AD SR FW TB md_X5_init 44 (.return_, 0, 0, 0, []) := io_void (by decide +kernel) rfl
set_option maxRecDepth 100000 in
theorem ok_X5_init_0 : ∀ q ∈ tl_X5_init, IOK WB AD SR FW TB md_X5_init q.1 q.2 := List.forall_mem_cons.mpr ⟨r_X5_init_0, List.forall_mem_cons.mpr ⟨r_X5_init_1, List.forall_mem_cons.mpr ⟨r_X5_init_4, List.forall_mem_cons.mpr ⟨r_X5_init_5, List.forall_mem_cons.mpr ⟨r_X5_init_8, List.forall_mem_cons.mpr ⟨r_X5_init_10, List.forall_mem_cons.mpr ⟨r_X5_init_13, List.forall_mem_cons.mpr ⟨r_X5_init_14, List.forall_mem_cons.mpr ⟨r_X5_init_17, List.forall_mem_cons.mpr ⟨r_X5_init_19, List.forall_mem_cons.mpr ⟨r_X5_init_22, List.forall_mem_cons.mpr ⟨r_X5_init_23, List.forall_mem_cons.mpr ⟨r_X5_init_26, List.forall_mem_cons.mpr ⟨r_X5_init_28, List.forall_mem_cons.mpr ⟨r_X5_init_31, List.forall_mem_cons.mpr ⟨r_X5_init_32, List.forall_mem_cons.mpr ⟨r_X5_init_33, List.forall_mem_cons.mpr ⟨r_X5_init_36, List.forall_mem_cons.mpr ⟨r_X5_init_39, List.forall_mem_cons.mpr ⟨r_X5_init_40, List.forall_mem_cons.mpr ⟨r_X5_init_41, List.forall_mem_cons.mpr ⟨r_X5_init_44, fun _ h => absurd h List.not_mem_nil⟩⟩⟩⟩⟩⟩⟩⟩⟩⟩⟩⟩⟩⟩⟩⟩⟩⟩⟩⟩⟩⟩
set_option maxRecDepth 100000 in
theorem tq_X5_init_0 : tf_X5_init = tl_X5_init.map (fun q => (q.1, stepOf NPf md_X5_init q.2)) := rfl
theorem ro_X5_init : RowsOK (md_X5_init, tl_X5_init) tf_X5_init := ⟨tq_X5_init_0, ok_X5_init_0⟩
theorem r_X8_canBePattern_0 : IOK WB AD SR FW TB md_X8_canBePattern 0 (.aload_n 0, 0, 0, 0, []) := io_plain (by decide +kernel) rfl
theorem r_X8_canBePattern_1 : IOK WB AD SR FW TB md_X8_canBePattern 1 (.iload_n 1, 0, 0, 0, []) := io_plain (by decide +kernel) rfl
theorem r_X8_canBePattern_2 : IOK WB AD SR FW TB md_X8_canBePattern 2 (.invokevirtual 67, 7, 8, 0, []) := io_virt (by decide +kernel) tb_X8_variablesAt (Or.inl (wb_4 28 rfl rfl)) in_X8_variablesAt se_X8_variablesAt ⟨_, rfl, rfl⟩ pr_X8_variablesAt (by decide)
theorem r_X8_canBePattern_5 : IOK WB AD SR FW TB md_X8_canBePattern 5 (.invokestatic 70, 22, 0, 0, []) := io_stat (by decide +kernel) tb_J6_bitCount_0f7a4 (Or.inl (wb_4 32 rfl rfl)) st_J6_bitCount_0f7a4 pr_J6_bitCount_0f7a4
theorem r_X8_canBePattern_8 : IOK WB AD SR FW TB md_X8_canBePattern 8 (.iconst 3, 0, 0, 0, []) := io_plain (by decide +kernel) rfl
theorem r_X8_canBePattern_9 : IOK WB AD SR FW TB md_X8_canBePattern 9 (.if_icmp .gt 7, 0, 0, 0, []) := io_plain (by decide +kernel) rfl
theorem r_X8_canBePattern_12 : IOK WB AD SR FW TB md_X8_canBePattern 12 (.iconst 1, 0, 0, 0, []) := io_plain (by decide +kernel) rfl
theorem r_X8_canBePattern_13 : IOK WB AD SR FW TB md_X8_canBePattern 13 (.goto 4, 0, 0, 0, []) := io_plain (by decide +kernel) rfl
theorem r_X8_canBePattern_17 : IOK WB AD SR FW TB md_X8_canBePattern 17 (.ireturn, 0, 0, 0, []) := io_plain (by decide +kernel) rfl
set_option maxRecDepth 100000 in
theorem ok_X8_canBePattern_0 : ∀ q ∈ tl_X8_canBePattern, IOK WB AD SR FW TB md_X8_canBePattern q.1 q.2 := List.forall_mem_cons.mpr ⟨r_X8_canBePattern_0, List.forall_mem_cons.mpr ⟨r_X8_canBePattern_1, List.forall_mem_cons.mpr ⟨r_X8_canBePattern_2, List.forall_mem_cons.mpr ⟨r_X8_canBePattern_5, List.forall_mem_cons.mpr ⟨r_X8_canBePattern_8, List.forall_mem_cons.mpr ⟨r_X8_canBePattern_9, List.forall_mem_cons.mpr ⟨r_X8_canBePattern_12, List.forall_mem_cons.mpr ⟨r_X8_canBePattern_13, List.forall_mem_cons.mpr ⟨r_X8_canBePattern_17, fun _ h => absurd h List.not_mem_nil⟩⟩⟩⟩⟩⟩⟩⟩⟩
set_option maxRecDepth 100000 in
theorem tq_X8_canBePattern_0 : tf_X8_canBePattern = tl_X8_canBePattern.map (fun q => (q.1, stepOf NPf md_X8_canBePattern q.2)) := rfl
theorem ro_X8_canBePattern : RowsOK (md_X8_canBePattern, tl_X8_canBePattern) tf_X8_canBePattern := ⟨tq_X8_canBePattern_0, ok_X8_canBePattern_0⟩
theorem r_X9_init_0 : IOK WB AD SR FW TB md_X9_init 0 (.aload_n 0, 0, 0, 0, []) := io_plain (by decide +kernel) rfl
theorem r_X9_init_1 : IOK WB AD SR FW TB md_X9_init 1 (.invokespecial 3, 1000, 0, 0, []) := io_obj (by decide +kernel) (wb_2 100 rfl rfl) ob_1 ob_2
theorem r_X9_init_4 : IOK WB AD SR FW TB md_X9_init 4 (.aload_n 0, 0, 0, 0, []) := io_plain (by decide +kernel) rfl
theorem r_X9_init_5 : IOK WB AD SR FW TB md_X9_init 5 (.aload_n 1, 0, 0, 0, []) := io_plain (by decide +kernel) rfl
theorem r_X9_init_6 : IOK WB AD SR FW TB md_X9_init 6 (.getfield 9, 6, 0, 2, []) := io_get (by decide +kernel) fo_RX9_9
theorem r_X9_init_9 : IOK WB AD SR FW TB md_X9_init 9 (.putfield 15, 9, 0, 2, []) := io_put (by decide +kernel) fo_RX9_15 po_RX9_1_9_0_2
theorem r_X9_init_12 : IOK WB AD SR FW TB md_X9_init 12 (.aload_n 0, 0, 0, 0, []) := io_plain (by decide +kernel) rfl
theorem r_X9_init_13 : IOK WB AD SR FW TB md_X9_init 13 (.aload_n 1, 0, 0, 0, []) := io_plain (by decide +kernel) rfl
theorem r_X9_init_14 : IOK WB AD SR FW TB md_X9_init 14 (.putfield 18, 9, 1, 2, []) := io_put (by decide +kernel) fo_RX9_18 po_RX9_1_9_1_2
theorem r_X9_init_17 : IOK WB AD SR FW TB md_X9_init 17 (.aload_n 0, 0, 0, 0, []) := io_plain (by decide +kernel) rfl
theorem r_X9_init_18 : IOK WB AD SR FW TB md_X9_init 18 (.aload_n 1, 0, 0, 0, []) := io_plain (by decide +kernel) rfl
theorem r_X9_init_19 : IOK WB AD SR FW TB md_X9_init 19 (.getfield 22, 6, 1, 2, []) := io_get (by decide +kernel) fo_RX9_22
theorem r_X9_init_22 : IOK WB AD SR FW TB md_X9_init 22 (.putfield 26, 9, 2, 2, []) := io_put (by decide +kernel) fo_RX9_26 po_RX9_1_9_2_2
theorem r_X9_init_25 : IOK WB AD SR FW TB md_X9_init 25 (.aload_n 0, 0, 0, 0, []) := io_plain (by decide +kernel) rfl
theorem r_X9_init_26 : IOK WB AD SR FW TB md_X9_init 26 (.aload_n 1, 0, 0, 0, []) := io_plain (by decide +kernel) rfl
theorem r_X9_init_27 : IOK WB AD SR FW TB md_X9_init 27 (.getfield 27, 6, 2, 2, []) := io_get (by decide +kernel) fo_RX9_27
theorem r_X9_init_30 : IOK WB AD SR FW TB md_X9_init 30 (.putfield 31, 9, 3, 2, []) := io_put (by decide +kernel) fo_RX9_31 po_RX9_1_9_3_2
theorem r_X9_init_33 : IOK WB AD SR FW TB md_X9_init 33 (.return_, 0, 0, 0, []) := io_void (by decide +kernel) rfl
set_option maxRecDepth 100000 in
theorem ok_X9_init_0 : ∀ q ∈ tl_X9_init, IOK WB AD SR FW TB md_X9_init q.1 q.2 := List.forall_mem_cons.mpr ⟨r_X9_init_0, List.forall_mem_cons.mpr ⟨r_X9_init_1, List.forall_mem_cons.mpr ⟨r_X9_init_4, List.forall_mem_cons.mpr ⟨r_X9_init_5, List.forall_mem_cons.mpr ⟨r_X9_init_6, List.forall_mem_cons.mpr ⟨r_X9_init_9, List.forall_mem_cons.mpr ⟨r_X9_init_12, List.forall_mem_cons.mpr ⟨r_X9_init_13, List.forall_mem_cons.mpr ⟨r_X9_init_14, List.forall_mem_cons.mpr ⟨r_X9_init_17, List.forall_mem_cons.mpr ⟨r_X9_init_18, List.forall_mem_cons.mpr ⟨r_X9_init_19, List.forall_mem_cons.mpr ⟨r_X9_init_22, List.forall_mem_cons.mpr ⟨r_X9_init_25, List.forall_mem_cons.mpr ⟨r_X9_init_26, List.forall_mem_cons.mpr ⟨r_X9_init_27, List.forall_mem_cons.mpr ⟨r_X9_init_30, List.forall_mem_cons.mpr ⟨r_X9_init_33, fun _ h => absurd h List.not_mem_nil⟩⟩⟩⟩⟩⟩⟩⟩⟩⟩⟩⟩⟩⟩⟩⟩⟩⟩
set_option maxRecDepth 100000 in
theorem tq_X9_init_0 : tf_X9_init = tl_X9_init.map (fun q => (q.1, stepOf NPf md_X9_init q.2)) := rfl
theorem ro_X9_init : RowsOK (md_X9_init, tl_X9_init) tf_X9_init := ⟨tq_X9_init_0, ok_X9_init_0⟩
theorem r_X10_sort_0 : IOK WB AD SR FW TB md_X10_sort 0 (.aload_n 0, 0, 0, 0, []) := io_plain (by decide +kernel) rfl
theorem r_X10_sort_1 : IOK WB AD SR FW TB md_X10_sort 1 (.getfield 12, 10, 0, 2, []) := io_get (by decide +kernel) fo_RX10_12
theorem r_X10_sort_4 : IOK WB AD SR FW TB md_X10_sort 4 (.getfield 78, 7, 0, 0, []) := io_get (by decide +kernel) fo_RX10_78
theorem r_X10_sort_7 : IOK WB AD SR FW TB md_X10_sort 7 (.bipush 8, 0, 0, 0, []) := io_plain (by decide +kernel) rfl
theorem r_X10_sort_9 : IOK WB AD SR FW TB md_X10_sort 9 (.if_icmp .lt 13, 0, 0, 0, []) := io_plain (by decide +kernel) rfl
theorem r_X10_sort_22 : IOK WB AD SR FW TB md_X10_sort 22 (.aload_n 0, 0, 0, 0, []) := io_plain (by decide +kernel) rfl
theorem r_X10_sort_23 : IOK WB AD SR FW TB md_X10_sort 23 (.getfield 12, 10, 0, 2, []) := io_get (by decide +kernel) fo_RX10_12
theorem r_X10_sort_26 : IOK WB AD SR FW TB md_X10_sort 26 (.dup, 0, 0, 0, []) := io_plain (by decide +kernel) rfl
theorem r_X10_sort_27 : IOK WB AD SR FW TB md_X10_sort 27 (.getfield 78, 7, 0, 0, []) := io_get (by decide +kernel) fo_RX10_78
theorem r_X10_sort_30 : IOK WB AD SR FW TB md_X10_sort 30 (.iconst 1, 0, 0, 0, []) := io_plain (by decide +kernel) rfl
theorem r_X10_sort_31 : IOK WB AD SR FW TB md_X10_sort 31 (.iadd, 0, 0, 0, []) := io_plain (by decide +kernel) rfl
theorem r_X10_sort_32 : IOK WB AD SR FW TB md_X10_sort 32 (.putfield 78, 7, 0, 0, []) := io_put (by decide +kernel) fo_RX10_78 po_RX10_0_7_0_0
theorem r_X10_sort_35 : IOK WB AD SR FW TB md_X10_sort 35 (.aload_n 0, 0, 0, 0, []) := io_plain (by decide +kernel) rfl
theorem r_X10_sort_36 : IOK WB AD SR FW TB md_X10_sort 36 (.getfield 12, 10, 0, 2, []) := io_get (by decide +kernel) fo_RX10_12
theorem r_X10_sort_39 : IOK WB AD SR FW TB md_X10_sort 39 (.getfield 78, 7, 0, 0, []) := io_get (by decide +kernel) fo_RX10_78
theorem r_X10_sort_42 : IOK WB AD SR FW TB md_X10_sort 42 (.iconst 1, 0, 0, 0, []) := io_plain (by decide +kernel) rfl
theorem r_X10_sort_43 : IOK WB AD SR FW TB md_X10_sort 43 (.isub, 0, 0, 0, []) := io_plain (by decide +kernel) rfl
theorem r_X10_sort_44 : IOK WB AD SR FW TB md_X10_sort 44 (.ireturn, 0, 0, 0, []) := io_plain (by decide +kernel) rfl
set_option maxRecDepth 100000 in
theorem ok_X10_sort_0 : ∀ q ∈ tl_X10_sort, IOK WB AD SR FW TB md_X10_sort q.1 q.2 := List.forall_mem_cons.mpr ⟨r_X10_sort_0, List.forall_mem_cons.mpr ⟨r_X10_sort_1, List.forall_mem_cons.mpr ⟨r_X10_sort_4, List.forall_mem_cons.mpr ⟨r_X10_sort_7, List.forall_mem_cons.mpr ⟨r_X10_sort_9, List.forall_mem_cons.mpr ⟨r_X10_sort_22, List.forall_mem_cons.mpr ⟨r_X10_sort_23, List.forall_mem_cons.mpr ⟨r_X10_sort_26, List.forall_mem_cons.mpr ⟨r_X10_sort_27, List.forall_mem_cons.mpr ⟨r_X10_sort_30, List.forall_mem_cons.mpr ⟨r_X10_sort_31, List.forall_mem_cons.mpr ⟨r_X10_sort_32, List.forall_mem_cons.mpr ⟨r_X10_sort_35, List.forall_mem_cons.mpr ⟨r_X10_sort_36, List.forall_mem_cons.mpr ⟨r_X10_sort_39, List.forall_mem_cons.mpr ⟨r_X10_sort_42, List.forall_mem_cons.mpr ⟨r_X10_sort_43, List.forall_mem_cons.mpr ⟨r_X10_sort_44, fun _ h => absurd h List.not_mem_nil⟩⟩⟩⟩⟩⟩⟩⟩⟩⟩⟩⟩⟩⟩⟩⟩⟩⟩
set_option maxRecDepth 100000 in
theorem tq_X10_sort_0 : tf_X10_sort = tl_X10_sort.map (fun q => (q.1, stepOf NPf md_X10_sort q.2)) := rfl
theorem ro_X10_sort : RowsOK (md_X10_sort, tl_X10_sort) tf_X10_sort := ⟨tq_X10_sort_0, ok_X10_sort_0⟩
theorem r_X2_init_0 : IOK WB AD SR FW TB md_X2_init 0 (.aload_n 0, 0, 0, 0, []) := io_plain (by decide +kernel) rfl
theorem r_X2_init_1 : IOK WB AD SR FW TB md_X2_init 1 (.invokespecial 3, 1000, 0, 0, []) := io_obj (by decide +kernel) (wb_1 148 rfl rfl) ob_1 ob_2
theorem r_X2_init_4 : IOK WB AD SR FW TB md_X2_init 4 (.aload_n 0, 0, 0, 0, []) := io_plain (by decide +kernel) rfl
theorem r_X2_init_5 : IOK WB AD SR FW TB md_X2_init 5 (.bipush 20, 0, 0, 0, []) := io_plain (by decide +kernel) rfl
theorem r_X2_init_7 : IOK WB AD SR FW TB md_X2_init 7 (.newarray .boolean, 1, 0, 0, []) := io_newa (by decide +kernel) (Or.inr (Or.inl ⟨rfl, rfl⟩)) ac_boolean
theorem r_X2_init_9 : IOK WB AD SR FW TB md_X2_init 9 (.putfield 9, 2, 4, 2, []) := io_put (by decide +kernel) fo_RX2_9 po_RX2_1_2_4_2
theorem r_X2_init_12 : IOK WB AD SR FW TB md_X2_init 12 (.aload_n 0, 0, 0, 0, []) := io_plain (by decide +kernel) rfl
theorem r_X2_init_13 : IOK WB AD SR FW TB md_X2_init 13 (.aload_n 1, 0, 0, 0, []) := io_plain (by decide +kernel) rfl
theorem r_X2_init_14 : IOK WB AD SR FW TB md_X2_init 14 (.putfield 15, 2, 0, 2, []) := io_put (by decide +kernel) fo_RX2_15 po_RX2_1_2_0_2
theorem r_X2_init_17 : IOK WB AD SR FW TB md_X2_init 17 (.aload_n 0, 0, 0, 0, []) := io_plain (by decide +kernel) rfl
theorem r_X2_init_18 : IOK WB AD SR FW TB md_X2_init 18 (.aload_n 1, 0, 0, 0, []) := io_plain (by decide +kernel) rfl
theorem r_X2_init_19 : IOK WB AD SR FW TB md_X2_init 19 (.getfield 19, 8, 0, 2, []) := io_get (by decide +kernel) fo_RX2_19
theorem r_X2_init_22 : IOK WB AD SR FW TB md_X2_init 22 (.putfield 25, 2, 1, 2, []) := io_put (by decide +kernel) fo_RX2_25 po_RX2_1_2_1_2
theorem r_X2_init_25 : IOK WB AD SR FW TB md_X2_init 25 (.return_, 0, 0, 0, []) := io_void (by decide +kernel) rfl
set_option maxRecDepth 100000 in
theorem ok_X2_init_0 : ∀ q ∈ tl_X2_init, IOK WB AD SR FW TB md_X2_init q.1 q.2 := List.forall_mem_cons.mpr ⟨r_X2_init_0, List.forall_mem_cons.mpr ⟨r_X2_init_1, List.forall_mem_cons.mpr ⟨r_X2_init_4, List.forall_mem_cons.mpr ⟨r_X2_init_5, List.forall_mem_cons.mpr ⟨r_X2_init_7, List.forall_mem_cons.mpr ⟨r_X2_init_9, List.forall_mem_cons.mpr ⟨r_X2_init_12, List.forall_mem_cons.mpr ⟨r_X2_init_13, List.forall_mem_cons.mpr ⟨r_X2_init_14, List.forall_mem_cons.mpr ⟨r_X2_init_17, List.forall_mem_cons.mpr ⟨r_X2_init_18, List.forall_mem_cons.mpr ⟨r_X2_init_19, List.forall_mem_cons.mpr ⟨r_X2_init_22, List.forall_mem_cons.mpr ⟨r_X2_init_25, fun _ h => absurd h List.not_mem_nil⟩⟩⟩⟩⟩⟩⟩⟩⟩⟩⟩⟩⟩⟩
set_option maxRecDepth 100000 in
theorem tq_X2_init_0 : tf_X2_init = tl_X2_init.map (fun q => (q.1, stepOf NPf md_X2_init q.2)) := rfl
theorem ro_X2_init : RowsOK (md_X2_init, tl_X2_init) tf_X2_init := ⟨tq_X2_init_0, ok_X2_init_0⟩
theorem r_X10_drop_0 : IOK WB AD SR FW TB md_X10_drop 0 (.aload_n 0, 0, 0, 0, []) := io_plain (by decide +kernel) rfl
theorem r_X10_drop_1 : IOK WB AD SR FW TB md_X10_drop 1 (.getfield 160, 10, 8, 0, []) := io_get (by decide +kernel) fo_RX10_160
theorem r_X10_drop_4 : IOK WB AD SR FW TB md_X10_drop 4 (.istore_n 1, 0, 0, 0, []) := io_plain (by decide +kernel) rfl
theorem r_X10_drop_5 : IOK WB AD SR FW TB md_X10_drop 5 (.aload_n 0, 0, 0, 0, []) := io_plain (by decide +kernel) rfl
theorem r_X10_drop_6 : IOK WB AD SR FW TB md_X10_drop 6 (.iconst 0, 0, 0, 0, []) := io_plain (by decide +kernel) rfl
theorem r_X10_drop_7 : IOK WB AD SR FW TB md_X10_drop 7 (.putfield 160, 10, 8, 0, []) := io_put (by decide +kernel) fo_RX10_160 po_RX10_0_10_8_0
theorem r_X10_drop_10 : IOK WB AD SR FW TB md_X10_drop 10 (.iload_n 1, 0, 0, 0, []) := io_plain (by decide +kernel) rfl
theorem r_X10_drop_11 : IOK WB AD SR FW TB md_X10_drop 11 (.ireturn, 0, 0, 0, []) := io_plain (by decide +kernel) rfl
set_option maxRecDepth 100000 in
theorem ok_X10_drop_0 : ∀ q ∈ tl_X10_drop, IOK WB AD SR FW TB md_X10_drop q.1 q.2 := List.forall_mem_cons.mpr ⟨r_X10_drop_0, List.forall_mem_cons.mpr ⟨r_X10_drop_1, List.forall_mem_cons.mpr ⟨r_X10_drop_4, List.forall_mem_cons.mpr ⟨r_X10_drop_5, List.forall_mem_cons.mpr ⟨r_X10_drop_6, List.forall_mem_cons.mpr ⟨r_X10_drop_7, List.forall_mem_cons.mpr ⟨r_X10_drop_10, List.forall_mem_cons.mpr ⟨r_X10_drop_11, fun _ h => absurd h List.not_mem_nil⟩⟩⟩⟩⟩⟩⟩⟩
set_option maxRecDepth 100000 in
theorem tq_X10_drop_0 : tf_X10_drop = tl_X10_drop.map (fun q => (q.1, stepOf NPf md_X10_drop q.2)) := rfl
theorem ro_X10_drop : RowsOK (md_X10_drop, tl_X10_drop) tf_X10_drop := ⟨tq_X10_drop_0, ok_X10_drop_0⟩
theorem r_X10_equations_0 : IOK WB AD SR FW TB md_X10_equations 0 (.aload_n 0, 0, 0, 0, []) := io_plain (by decide +kernel) rfl
theorem r_X10_equations_1 : IOK WB AD SR FW TB md_X10_equations 1 (.getfield 30, 10, 2, 2, []) := io_get (by decide +kernel) fo_RX10_30
theorem r_X10_equations_4 : IOK WB AD SR FW TB md_X10_equations 4 (.getfield 262, 2, 2, 0, []) := io_get (by decide +kernel) fo_RX10_262
theorem r_X10_equations_7 : IOK WB AD SR FW TB md_X10_equations 7 (.ireturn, 0, 0, 0, []) := io_plain (by decide +kernel) rfl
set_option maxRecDepth 100000 in
theorem ok_X10_equations_0 : ∀ q ∈ tl_X10_equations, IOK WB AD SR FW TB md_X10_equations q.1 q.2 := List.forall_mem_cons.mpr ⟨r_X10_equations_0, List.forall_mem_cons.mpr ⟨r_X10_equations_1, List.forall_mem_cons.mpr ⟨r_X10_equations_4, List.forall_mem_cons.mpr ⟨r_X10_equations_7, fun _ h => absurd h List.not_mem_nil⟩⟩⟩⟩
set_option maxRecDepth 100000 in
theorem tq_X10_equations_0 : tf_X10_equations = tl_X10_equations.map (fun q => (q.1, stepOf NPf md_X10_equations q.2)) := rfl
theorem ro_X10_equations : RowsOK (md_X10_equations, tl_X10_equations) tf_X10_equations := ⟨tq_X10_equations_0, ok_X10_equations_0⟩
theorem r_X2_canFit_0 : IOK WB AD SR FW TB md_X2_canFit 0 (.aload_n 0, 0, 0, 0, []) := io_plain (by decide +kernel) rfl
theorem r_X2_canFit_1 : IOK WB AD SR FW TB md_X2_canFit 1 (.iload_n 1, 0, 0, 0, []) := io_plain (by decide +kernel) rfl
theorem r_X2_canFit_2 : IOK WB AD SR FW TB md_X2_canFit 2 (.iconst 0, 0, 0, 0, []) := io_plain (by decide +kernel) rfl
theorem r_X2_canFit_3 : IOK WB AD SR FW TB md_X2_canFit 3 (.invokevirtual 33, 29, 2, 0, []) := io_virt (by decide +kernel) tb_X2_partAt (Or.inl (wb_4 86 rfl rfl)) in_X2_partAt se_X2_partAt ⟨_, rfl, rfl⟩ pr_X2_partAt (by decide)
theorem r_X2_canFit_6 : IOK WB AD SR FW TB md_X2_canFit 6 (.istore_n 3, 0, 0, 0, []) := io_plain (by decide +kernel) rfl
theorem r_X2_canFit_7 : IOK WB AD SR FW TB md_X2_canFit 7 (.aload_n 0, 0, 0, 0, []) := io_plain (by decide +kernel) rfl
theorem r_X2_canFit_8 : IOK WB AD SR FW TB md_X2_canFit 8 (.getfield 15, 2, 0, 2, []) := io_get (by decide +kernel) fo_RX2_15
theorem r_X2_canFit_11 : IOK WB AD SR FW TB md_X2_canFit 11 (.getfield 37, 8, 1, 2, []) := io_get (by decide +kernel) fo_RX2_37
theorem r_X2_canFit_14 : IOK WB AD SR FW TB md_X2_canFit 14 (.iload_n 3, 0, 0, 0, []) := io_plain (by decide +kernel) rfl
theorem r_X2_canFit_15 : IOK WB AD SR FW TB md_X2_canFit 15 (.iaload, 0, 0, 0, []) := io_plain (by decide +kernel) rfl
theorem r_X2_canFit_16 : IOK WB AD SR FW TB md_X2_canFit 16 (.istore 4, 0, 0, 0, []) := io_plain (by decide +kernel) rfl
theorem r_X2_canFit_18 : IOK WB AD SR FW TB md_X2_canFit 18 (.iload 4, 0, 0, 0, []) := io_plain (by decide +kernel) rfl
theorem r_X2_canFit_20 : IOK WB AD SR FW TB md_X2_canFit 20 (.invokestatic 41, 86, 10, 0, []) := io_stat (by decide +kernel) tb_X10_operatorIn (Or.inr ⟨rfl, rfl, "RuleForge", List.mem_of_getElem? (i := 0) rfl⟩) st_X10_operatorIn pr_X10_operatorIn
theorem r_X2_canFit_23 : IOK WB AD SR FW TB md_X2_canFit 23 (.istore 5, 0, 0, 0, []) := io_plain (by decide +kernel) rfl
theorem r_X2_canFit_25 : IOK WB AD SR FW TB md_X2_canFit 25 (.aload_n 0, 0, 0, 0, []) := io_plain (by decide +kernel) rfl
theorem r_X2_canFit_26 : IOK WB AD SR FW TB md_X2_canFit 26 (.getfield 25, 2, 1, 2, []) := io_get (by decide +kernel) fo_RX2_25
theorem r_X2_canFit_29 : IOK WB AD SR FW TB md_X2_canFit 29 (.getfield 45, 7, 6, 2, []) := io_get (by decide +kernel) fo_RX2_45
theorem r_X2_canFit_32 : IOK WB AD SR FW TB md_X2_canFit 32 (.iload 5, 0, 0, 0, []) := io_plain (by decide +kernel) rfl
theorem r_X2_canFit_34 : IOK WB AD SR FW TB md_X2_canFit 34 (.iaload, 0, 0, 0, []) := io_plain (by decide +kernel) rfl
theorem r_X2_canFit_35 : IOK WB AD SR FW TB md_X2_canFit 35 (.iconst (-1), 0, 0, 0, []) := io_plain (by decide +kernel) rfl
theorem r_X2_canFit_36 : IOK WB AD SR FW TB md_X2_canFit 36 (.if_icmp .eq 5, 0, 0, 0, []) := io_plain (by decide +kernel) rfl
theorem r_X2_canFit_41 : IOK WB AD SR FW TB md_X2_canFit 41 (.aload_n 0, 0, 0, 0, []) := io_plain (by decide +kernel) rfl
theorem r_X2_canFit_42 : IOK WB AD SR FW TB md_X2_canFit 42 (.getfield 15, 2, 0, 2, []) := io_get (by decide +kernel) fo_RX2_15
theorem r_X2_canFit_45 : IOK WB AD SR FW TB md_X2_canFit 45 (.getfield 37, 8, 1, 2, []) := io_get (by decide +kernel) fo_RX2_37
theorem r_X2_canFit_48 : IOK WB AD SR FW TB md_X2_canFit 48 (.iload_n 2, 0, 0, 0, []) := io_plain (by decide +kernel) rfl
theorem r_X2_canFit_49 : IOK WB AD SR FW TB md_X2_canFit 49 (.iaload, 0, 0, 0, []) := io_plain (by decide +kernel) rfl
theorem r_X2_canFit_50 : IOK WB AD SR FW TB md_X2_canFit 50 (.istore 6, 0, 0, 0, []) := io_plain (by decide +kernel) rfl
theorem r_X2_canFit_52 : IOK WB AD SR FW TB md_X2_canFit 52 (.iload 6, 0, 0, 0, []) := io_plain (by decide +kernel) rfl
theorem r_X2_canFit_54 : IOK WB AD SR FW TB md_X2_canFit 54 (.bipush 32, 0, 0, 0, []) := io_plain (by decide +kernel) rfl
theorem r_X2_canFit_56 : IOK WB AD SR FW TB md_X2_canFit 56 (.if_icmp .lt 13, 0, 0, 0, []) := io_plain (by decide +kernel) rfl
theorem r_X2_canFit_59 : IOK WB AD SR FW TB md_X2_canFit 59 (.iload 6, 0, 0, 0, []) := io_plain (by decide +kernel) rfl
theorem r_X2_canFit_61 : IOK WB AD SR FW TB md_X2_canFit 61 (.invokestatic 41, 86, 10, 0, []) := io_stat (by decide +kernel) tb_X10_operatorIn (Or.inr ⟨rfl, rfl, "RuleForge", List.mem_of_getElem? (i := 0) rfl⟩) st_X10_operatorIn pr_X10_operatorIn
theorem r_X2_canFit_64 : IOK WB AD SR FW TB md_X2_canFit 64 (.iload 5, 0, 0, 0, []) := io_plain (by decide +kernel) rfl
theorem r_X2_canFit_66 : IOK WB AD SR FW TB md_X2_canFit 66 (.if_icmp .eq 5, 0, 0, 0, []) := io_plain (by decide +kernel) rfl
theorem r_X2_canFit_69 : IOK WB AD SR FW TB md_X2_canFit 69 (.iconst 0, 0, 0, 0, []) := io_plain (by decide +kernel) rfl
theorem r_X2_canFit_70 : IOK WB AD SR FW TB md_X2_canFit 70 (.ireturn, 0, 0, 0, []) := io_plain (by decide +kernel) rfl
theorem r_X2_canFit_71 : IOK WB AD SR FW TB md_X2_canFit 71 (.aload_n 0, 0, 0, 0, []) := io_plain (by decide +kernel) rfl
theorem r_X2_canFit_72 : IOK WB AD SR FW TB md_X2_canFit 72 (.getfield 25, 2, 1, 2, []) := io_get (by decide +kernel) fo_RX2_25
theorem r_X2_canFit_75 : IOK WB AD SR FW TB md_X2_canFit 75 (.getfield 50, 7, 5, 2, []) := io_get (by decide +kernel) fo_RX2_50
theorem r_X2_canFit_78 : IOK WB AD SR FW TB md_X2_canFit 78 (.iload 5, 0, 0, 0, []) := io_plain (by decide +kernel) rfl
theorem r_X2_canFit_80 : IOK WB AD SR FW TB md_X2_canFit 80 (.iaload, 0, 0, 0, []) := io_plain (by decide +kernel) rfl
theorem r_X2_canFit_81 : IOK WB AD SR FW TB md_X2_canFit 81 (.ifCond .eq 5, 0, 0, 0, []) := io_plain (by decide +kernel) rfl
theorem r_X2_canFit_86 : IOK WB AD SR FW TB md_X2_canFit 86 (.iload_n 3, 0, 0, 0, []) := io_plain (by decide +kernel) rfl
theorem r_X2_canFit_87 : IOK WB AD SR FW TB md_X2_canFit 87 (.iconst 1, 0, 0, 0, []) := io_plain (by decide +kernel) rfl
theorem r_X2_canFit_88 : IOK WB AD SR FW TB md_X2_canFit 88 (.iadd, 0, 0, 0, []) := io_plain (by decide +kernel) rfl
theorem r_X2_canFit_89 : IOK WB AD SR FW TB md_X2_canFit 89 (.istore 7, 0, 0, 0, []) := io_plain (by decide +kernel) rfl
theorem r_X2_canFit_91 : IOK WB AD SR FW TB md_X2_canFit 91 (.iload_n 2, 0, 0, 0, []) := io_plain (by decide +kernel) rfl
theorem r_X2_canFit_92 : IOK WB AD SR FW TB md_X2_canFit 92 (.iconst 1, 0, 0, 0, []) := io_plain (by decide +kernel) rfl
theorem r_X2_canFit_93 : IOK WB AD SR FW TB md_X2_canFit 93 (.iadd, 0, 0, 0, []) := io_plain (by decide +kernel) rfl
theorem r_X2_canFit_94 : IOK WB AD SR FW TB md_X2_canFit 94 (.istore 8, 0, 0, 0, []) := io_plain (by decide +kernel) rfl
theorem r_X2_canFit_96 : IOK WB AD SR FW TB md_X2_canFit 96 (.iconst 0, 0, 0, 0, []) := io_plain (by decide +kernel) rfl
theorem r_X2_canFit_97 : IOK WB AD SR FW TB md_X2_canFit 97 (.istore 9, 0, 0, 0, []) := io_plain (by decide +kernel) rfl
theorem r_X2_canFit_99 : IOK WB AD SR FW TB md_X2_canFit 99 (.iload 9, 0, 0, 0, []) := io_plain (by decide +kernel) rfl
theorem r_X2_canFit_101 : IOK WB AD SR FW TB md_X2_canFit 101 (.iload 4, 0, 0, 0, []) := io_plain (by decide +kernel) rfl
theorem r_X2_canFit_103 : IOK WB AD SR FW TB md_X2_canFit 103 (.bipush 8, 0, 0, 0, []) := io_plain (by decide +kernel) rfl
theorem r_X2_canFit_105 : IOK WB AD SR FW TB md_X2_canFit 105 (.irem, 0, 0, 0, []) := io_plain (by decide +kernel) rfl
theorem r_X2_canFit_106 : IOK WB AD SR FW TB md_X2_canFit 106 (.if_icmp .ge 60, 0, 0, 0, []) := io_plain (by decide +kernel) rfl
theorem r_X2_canFit_109 : IOK WB AD SR FW TB md_X2_canFit 109 (.aload_n 0, 0, 0, 0, []) := io_plain (by decide +kernel) rfl
theorem r_X2_canFit_110 : IOK WB AD SR FW TB md_X2_canFit 110 (.aload_n 0, 0, 0, 0, []) := io_plain (by decide +kernel) rfl
theorem r_X2_canFit_111 : IOK WB AD SR FW TB md_X2_canFit 111 (.getfield 15, 2, 0, 2, []) := io_get (by decide +kernel) fo_RX2_15
theorem r_X2_canFit_114 : IOK WB AD SR FW TB md_X2_canFit 114 (.getfield 37, 8, 1, 2, []) := io_get (by decide +kernel) fo_RX2_37
theorem r_X2_canFit_117 : IOK WB AD SR FW TB md_X2_canFit 117 (.iload 7, 0, 0, 0, []) := io_plain (by decide +kernel) rfl
theorem r_X2_canFit_119 : IOK WB AD SR FW TB md_X2_canFit 119 (.iaload, 0, 0, 0, []) := io_plain (by decide +kernel) rfl
theorem r_X2_canFit_120 : IOK WB AD SR FW TB md_X2_canFit 120 (.aload_n 0, 0, 0, 0, []) := io_plain (by decide +kernel) rfl
theorem r_X2_canFit_121 : IOK WB AD SR FW TB md_X2_canFit 121 (.getfield 15, 2, 0, 2, []) := io_get (by decide +kernel) fo_RX2_15
theorem r_X2_canFit_124 : IOK WB AD SR FW TB md_X2_canFit 124 (.getfield 37, 8, 1, 2, []) := io_get (by decide +kernel) fo_RX2_37
theorem r_X2_canFit_127 : IOK WB AD SR FW TB md_X2_canFit 127 (.iload 8, 0, 0, 0, []) := io_plain (by decide +kernel) rfl
theorem r_X2_canFit_129 : IOK WB AD SR FW TB md_X2_canFit 129 (.iaload, 0, 0, 0, []) := io_plain (by decide +kernel) rfl
theorem r_X2_canFit_130 : IOK WB AD SR FW TB md_X2_canFit 130 (.invokevirtual 53, 43, 2, 0, []) := io_virt (by decide +kernel) tb_X2_argumentFits (Or.inl (wb_4 88 rfl rfl)) in_X2_argumentFits se_X2_argumentFits ⟨_, rfl, rfl⟩ pr_X2_argumentFits (by decide)
theorem r_X2_canFit_133 : IOK WB AD SR FW TB md_X2_canFit 133 (.ifCond .ne 5, 0, 0, 0, []) := io_plain (by decide +kernel) rfl
theorem r_X2_canFit_136 : IOK WB AD SR FW TB md_X2_canFit 136 (.iconst 0, 0, 0, 0, []) := io_plain (by decide +kernel) rfl
theorem r_X2_canFit_137 : IOK WB AD SR FW TB md_X2_canFit 137 (.ireturn, 0, 0, 0, []) := io_plain (by decide +kernel) rfl
theorem r_X2_canFit_138 : IOK WB AD SR FW TB md_X2_canFit 138 (.aload_n 0, 0, 0, 0, []) := io_plain (by decide +kernel) rfl
theorem r_X2_canFit_139 : IOK WB AD SR FW TB md_X2_canFit 139 (.getfield 15, 2, 0, 2, []) := io_get (by decide +kernel) fo_RX2_15
theorem r_X2_canFit_142 : IOK WB AD SR FW TB md_X2_canFit 142 (.iload 7, 0, 0, 0, []) := io_plain (by decide +kernel) rfl
theorem r_X2_canFit_144 : IOK WB AD SR FW TB md_X2_canFit 144 (.invokevirtual 57, 2, 8, 0, []) := io_virt (by decide +kernel) tb_X8_end (Or.inl (wb_4 92 rfl rfl)) in_X8_end se_X8_end ⟨_, rfl, rfl⟩ pr_X8_end (by decide)
theorem r_X2_canFit_147 : IOK WB AD SR FW TB md_X2_canFit 147 (.istore 7, 0, 0, 0, []) := io_plain (by decide +kernel) rfl
theorem r_X2_canFit_149 : IOK WB AD SR FW TB md_X2_canFit 149 (.aload_n 0, 0, 0, 0, []) := io_plain (by decide +kernel) rfl
theorem r_X2_canFit_150 : IOK WB AD SR FW TB md_X2_canFit 150 (.getfield 15, 2, 0, 2, []) := io_get (by decide +kernel) fo_RX2_15
theorem r_X2_canFit_153 : IOK WB AD SR FW TB md_X2_canFit 153 (.iload 8, 0, 0, 0, []) := io_plain (by decide +kernel) rfl
theorem r_X2_canFit_155 : IOK WB AD SR FW TB md_X2_canFit 155 (.invokevirtual 57, 2, 8, 0, []) := io_virt (by decide +kernel) tb_X8_end (Or.inl (wb_4 92 rfl rfl)) in_X8_end se_X8_end ⟨_, rfl, rfl⟩ pr_X8_end (by decide)
theorem r_X2_canFit_158 : IOK WB AD SR FW TB md_X2_canFit 158 (.istore 8, 0, 0, 0, []) := io_plain (by decide +kernel) rfl
theorem r_X2_canFit_160 : IOK WB AD SR FW TB md_X2_canFit 160 (.iinc 9 1, 0, 0, 0, []) := io_plain (by decide +kernel) rfl
theorem r_X2_canFit_163 : IOK WB AD SR FW TB md_X2_canFit 163 (.goto (-64), 0, 0, 0, []) := io_plain (by decide +kernel) rfl
theorem r_X2_canFit_166 : IOK WB AD SR FW TB md_X2_canFit 166 (.iconst 1, 0, 0, 0, []) := io_plain (by decide +kernel) rfl
theorem r_X2_canFit_167 : IOK WB AD SR FW TB md_X2_canFit 167 (.ireturn, 0, 0, 0, []) := io_plain (by decide +kernel) rfl
set_option maxRecDepth 100000 in
theorem ok_X2_canFit_0 : ∀ q ∈ tl_X2_canFit, IOK WB AD SR FW TB md_X2_canFit q.1 q.2 := fun _ h => absurd h List.not_mem_nil
set_option maxRecDepth 100000 in
theorem tq_X2_canFit_0 : tf_X2_canFit = tl_X2_canFit.map (fun q => (q.1, stepOf NPf md_X2_canFit q.2)) := rfl
theorem ro_X2_canFit : RowsOK (md_X2_canFit, tl_X2_canFit) tf_X2_canFit := ⟨tq_X2_canFit_0, ok_X2_canFit_0⟩
theorem r_X2_argumentFits_0 : IOK WB AD SR FW TB md_X2_argumentFits 0 (.iload_n 1, 0, 0, 0, []) := io_plain (by decide +kernel) rfl
theorem r_X2_argumentFits_1 : IOK WB AD SR FW TB md_X2_argumentFits 1 (.bipush 32, 0, 0, 0, []) := io_plain (by decide +kernel) rfl
theorem r_X2_argumentFits_3 : IOK WB AD SR FW TB md_X2_argumentFits 3 (.if_icmp .lt 19, 0, 0, 0, []) := io_plain (by decide +kernel) rfl
theorem r_X2_argumentFits_6 : IOK WB AD SR FW TB md_X2_argumentFits 6 (.aload_n 0, 0, 0, 0, []) := io_plain (by decide +kernel) rfl
theorem r_X2_argumentFits_7 : IOK WB AD SR FW TB md_X2_argumentFits 7 (.getfield 25, 2, 1, 2, []) := io_get (by decide +kernel) fo_RX2_25
theorem r_X2_argumentFits_10 : IOK WB AD SR FW TB md_X2_argumentFits 10 (.getfield 45, 7, 6, 2, []) := io_get (by decide +kernel) fo_RX2_45
theorem r_X2_argumentFits_13 : IOK WB AD SR FW TB md_X2_argumentFits 13 (.iload_n 1, 0, 0, 0, []) := io_plain (by decide +kernel) rfl
theorem r_X2_argumentFits_14 : IOK WB AD SR FW TB md_X2_argumentFits 14 (.invokestatic 41, 86, 10, 0, []) := io_stat (by decide +kernel) tb_X10_operatorIn (Or.inr ⟨rfl, rfl, "RuleForge", List.mem_of_getElem? (i := 0) rfl⟩) st_X10_operatorIn pr_X10_operatorIn
theorem r_X2_argumentFits_17 : IOK WB AD SR FW TB md_X2_argumentFits 17 (.iaload, 0, 0, 0, []) := io_plain (by decide +kernel) rfl
theorem r_X2_argumentFits_18 : IOK WB AD SR FW TB md_X2_argumentFits 18 (.iconst (-1), 0, 0, 0, []) := io_plain (by decide +kernel) rfl
theorem r_X2_argumentFits_19 : IOK WB AD SR FW TB md_X2_argumentFits 19 (.if_icmp .eq 5, 0, 0, 0, []) := io_plain (by decide +kernel) rfl
theorem r_X2_argumentFits_22 : IOK WB AD SR FW TB md_X2_argumentFits 22 (.iconst 1, 0, 0, 0, []) := io_plain (by decide +kernel) rfl
theorem r_X2_argumentFits_23 : IOK WB AD SR FW TB md_X2_argumentFits 23 (.ireturn, 0, 0, 0, []) := io_plain (by decide +kernel) rfl
theorem r_X2_argumentFits_24 : IOK WB AD SR FW TB md_X2_argumentFits 24 (.iload_n 2, 0, 0, 0, []) := io_plain (by decide +kernel) rfl
theorem r_X2_argumentFits_25 : IOK WB AD SR FW TB md_X2_argumentFits 25 (.bipush 32, 0, 0, 0, []) := io_plain (by decide +kernel) rfl
theorem r_X2_argumentFits_27 : IOK WB AD SR FW TB md_X2_argumentFits 27 (.if_icmp .lt 18, 0, 0, 0, []) := io_plain (by decide +kernel) rfl
theorem r_X2_argumentFits_30 : IOK WB AD SR FW TB md_X2_argumentFits 30 (.iload_n 2, 0, 0, 0, []) := io_plain (by decide +kernel) rfl
theorem r_X2_argumentFits_31 : IOK WB AD SR FW TB md_X2_argumentFits 31 (.invokestatic 41, 86, 10, 0, []) := io_stat (by decide +kernel) tb_X10_operatorIn (Or.inr ⟨rfl, rfl, "RuleForge", List.mem_of_getElem? (i := 0) rfl⟩) st_X10_operatorIn pr_X10_operatorIn
theorem r_X2_argumentFits_34 : IOK WB AD SR FW TB md_X2_argumentFits 34 (.iload_n 1, 0, 0, 0, []) := io_plain (by decide +kernel) rfl
theorem r_X2_argumentFits_35 : IOK WB AD SR FW TB md_X2_argumentFits 35 (.invokestatic 41, 86, 10, 0, []) := io_stat (by decide +kernel) tb_X10_operatorIn (Or.inr ⟨rfl, rfl, "RuleForge", List.mem_of_getElem? (i := 0) rfl⟩) st_X10_operatorIn pr_X10_operatorIn
theorem r_X2_argumentFits_38 : IOK WB AD SR FW TB md_X2_argumentFits 38 (.if_icmp .ne 7, 0, 0, 0, []) := io_plain (by decide +kernel) rfl
theorem r_X2_argumentFits_41 : IOK WB AD SR FW TB md_X2_argumentFits 41 (.iconst 1, 0, 0, 0, []) := io_plain (by decide +kernel) rfl
theorem r_X2_argumentFits_42 : IOK WB AD SR FW TB md_X2_argumentFits 42 (.goto 4, 0, 0, 0, []) := io_plain (by decide +kernel) rfl
theorem r_X2_argumentFits_45 : IOK WB AD SR FW TB md_X2_argumentFits 45 (.iconst 0, 0, 0, 0, []) := io_plain (by decide +kernel) rfl
theorem r_X2_argumentFits_46 : IOK WB AD SR FW TB md_X2_argumentFits 46 (.ireturn, 0, 0, 0, []) := io_plain (by decide +kernel) rfl
set_option maxRecDepth 100000 in
theorem ok_X2_argumentFits_0 : ∀ q ∈ tl_X2_argumentFits, IOK WB AD SR FW TB md_X2_argumentFits q.1 q.2 := fun _ h => absurd h List.not_mem_nil
set_option maxRecDepth 100000 in
theorem tq_X2_argumentFits_0 : tf_X2_argumentFits = tl_X2_argumentFits.map (fun q => (q.1, stepOf NPf md_X2_argumentFits q.2)) := rfl
theorem ro_X2_argumentFits : RowsOK (md_X2_argumentFits, tl_X2_argumentFits) tf_X2_argumentFits := ⟨tq_X2_argumentFits_0, ok_X2_argumentFits_0⟩
theorem r_X3_list_0 : IOK WB AD SR FW TB md_X3_list 0 (.aload_n 0, 0, 0, 0, []) := io_plain (by decide +kernel) rfl
theorem r_X3_list_1 : IOK WB AD SR FW TB md_X3_list 1 (.getfield 52, 3, 2, 2, []) := io_get (by decide +kernel) fo_RX3_52
theorem r_X3_list_4 : IOK WB AD SR FW TB md_X3_list 4 (.iload_n 2, 0, 0, 0, []) := io_plain (by decide +kernel) rfl
theorem r_X3_list_5 : IOK WB AD SR FW TB md_X3_list 5 (.invokevirtual 56, 56, 4, 0, []) := io_virt (by decide +kernel) tb_X4_collect (Or.inl (wb_4 98 rfl rfl)) in_X4_collect se_X4_collect ⟨_, rfl, rfl⟩ pr_X4_collect (by decide)
theorem r_X3_list_8 : IOK WB AD SR FW TB md_X3_list 8 (.aload_n 0, 0, 0, 0, []) := io_plain (by decide +kernel) rfl
theorem r_X3_list_9 : IOK WB AD SR FW TB md_X3_list 9 (.getfield 52, 3, 2, 2, []) := io_get (by decide +kernel) fo_RX3_52
theorem r_X3_list_12 : IOK WB AD SR FW TB md_X3_list 12 (.invokevirtual 60, 57, 4, 0, []) := io_virt (by decide +kernel) tb_X4_addParts (Or.inl (wb_4 107 rfl rfl)) in_X4_addParts se_X4_addParts ⟨_, rfl, rfl⟩ pr_X4_addParts (by decide)
theorem r_X3_list_15 : IOK WB AD SR FW TB md_X3_list 15 (.aload_n 0, 0, 0, 0, []) := io_plain (by decide +kernel) rfl
theorem r_X3_list_16 : IOK WB AD SR FW TB md_X3_list 16 (.getfield 52, 3, 2, 2, []) := io_get (by decide +kernel) fo_RX3_52
theorem r_X3_list_19 : IOK WB AD SR FW TB md_X3_list 19 (.invokevirtual 63, 59, 4, 0, []) := io_virt (by decide +kernel) tb_X4_addIdentities (Or.inl (wb_4 124 rfl rfl)) in_X4_addIdentities se_X4_addIdentities ⟨_, rfl, rfl⟩ pr_X4_addIdentities (by decide)
theorem r_X3_list_22 : IOK WB AD SR FW TB md_X3_list 22 (.aload_n 0, 0, 0, 0, []) := io_plain (by decide +kernel) rfl
theorem r_X3_list_23 : IOK WB AD SR FW TB md_X3_list 23 (.getfield 52, 3, 2, 2, []) := io_get (by decide +kernel) fo_RX3_52
theorem r_X3_list_26 : IOK WB AD SR FW TB md_X3_list 26 (.invokevirtual 66, 60, 4, 0, []) := io_virt (by decide +kernel) tb_X4_rankAll (Or.inl (wb_4 128 rfl rfl)) in_X4_rankAll se_X4_rankAll ⟨_, rfl, rfl⟩ pr_X4_rankAll (by decide)
theorem r_X3_list_29 : IOK WB AD SR FW TB md_X3_list 29 (.iconst 0, 0, 0, 0, []) := io_plain (by decide +kernel) rfl
theorem r_X3_list_30 : IOK WB AD SR FW TB md_X3_list 30 (.istore_n 3, 0, 0, 0, []) := io_plain (by decide +kernel) rfl
theorem r_X3_list_31 : IOK WB AD SR FW TB md_X3_list 31 (.iload_n 3, 0, 0, 0, []) := io_plain (by decide +kernel) rfl
theorem r_X3_list_32 : IOK WB AD SR FW TB md_X3_list 32 (.aload_n 0, 0, 0, 0, []) := io_plain (by decide +kernel) rfl
theorem r_X3_list_33 : IOK WB AD SR FW TB md_X3_list 33 (.getfield 52, 3, 2, 2, []) := io_get (by decide +kernel) fo_RX3_52
theorem r_X3_list_36 : IOK WB AD SR FW TB md_X3_list 36 (.getfield 69, 4, 9, 0, []) := io_get (by decide +kernel) fo_RX3_69
theorem r_X3_list_39 : IOK WB AD SR FW TB md_X3_list 39 (.if_icmp .ge 44, 0, 0, 0, []) := io_plain (by decide +kernel) rfl
theorem r_X3_list_42 : IOK WB AD SR FW TB md_X3_list 42 (.aload_n 0, 0, 0, 0, []) := io_plain (by decide +kernel) rfl
theorem r_X3_list_43 : IOK WB AD SR FW TB md_X3_list 43 (.getfield 52, 3, 2, 2, []) := io_get (by decide +kernel) fo_RX3_52
theorem r_X3_list_46 : IOK WB AD SR FW TB md_X3_list 46 (.getfield 73, 4, 10, 2, []) := io_get (by decide +kernel) fo_RX3_73
theorem r_X3_list_49 : IOK WB AD SR FW TB md_X3_list 49 (.iload_n 3, 0, 0, 0, []) := io_plain (by decide +kernel) rfl
theorem r_X3_list_50 : IOK WB AD SR FW TB md_X3_list 50 (.iaload, 0, 0, 0, []) := io_plain (by decide +kernel) rfl
theorem r_X3_list_51 : IOK WB AD SR FW TB md_X3_list 51 (.istore 4, 0, 0, 0, []) := io_plain (by decide +kernel) rfl
theorem r_X3_list_53 : IOK WB AD SR FW TB md_X3_list 53 (.aload_n 0, 0, 0, 0, []) := io_plain (by decide +kernel) rfl
theorem r_X3_list_54 : IOK WB AD SR FW TB md_X3_list 54 (.getfield 11, 3, 3, 2, []) := io_get (by decide +kernel) fo_RX3_11
theorem r_X3_list_57 : IOK WB AD SR FW TB md_X3_list 57 (.iload 4, 0, 0, 0, []) := io_plain (by decide +kernel) rfl
theorem r_X3_list_59 : IOK WB AD SR FW TB md_X3_list 59 (.aload_n 0, 0, 0, 0, []) := io_plain (by decide +kernel) rfl
theorem r_X3_list_60 : IOK WB AD SR FW TB md_X3_list 60 (.getfield 38, 3, 0, 2, []) := io_get (by decide +kernel) fo_RX3_38
theorem r_X3_list_63 : IOK WB AD SR FW TB md_X3_list 63 (.aload_n 0, 0, 0, 0, []) := io_plain (by decide +kernel) rfl
theorem r_X3_list_64 : IOK WB AD SR FW TB md_X3_list 64 (.getfield 52, 3, 2, 2, []) := io_get (by decide +kernel) fo_RX3_52
theorem r_X3_list_67 : IOK WB AD SR FW TB md_X3_list 67 (.getfield 76, 4, 3, 2, []) := io_get (by decide +kernel) fo_RX3_76
theorem r_X3_list_70 : IOK WB AD SR FW TB md_X3_list 70 (.iload 4, 0, 0, 0, []) := io_plain (by decide +kernel) rfl
theorem r_X3_list_72 : IOK WB AD SR FW TB md_X3_list 72 (.iaload, 0, 0, 0, []) := io_plain (by decide +kernel) rfl
theorem r_X3_list_73 : IOK WB AD SR FW TB md_X3_list 73 (.invokevirtual 79, 75, 8, 0, []) := io_virt (by decide +kernel) tb_X8_sortAt (Or.inr ⟨rfl, rfl, "RuleForge", List.mem_of_getElem? (i := 1) rfl⟩) in_X8_sortAt se_X8_sortAt ⟨_, rfl, rfl⟩ pr_X8_sortAt (by decide)
theorem r_X3_list_76 : IOK WB AD SR FW TB md_X3_list 76 (.iastore, 0, 0, 0, []) := io_plain (by decide +kernel) rfl
theorem r_X3_list_77 : IOK WB AD SR FW TB md_X3_list 77 (.iinc 3 1, 0, 0, 0, []) := io_plain (by decide +kernel) rfl
theorem r_X3_list_80 : IOK WB AD SR FW TB md_X3_list 80 (.goto (-49), 0, 0, 0, []) := io_plain (by decide +kernel) rfl
theorem r_X3_list_83 : IOK WB AD SR FW TB md_X3_list 83 (.aload_n 0, 0, 0, 0, []) := io_plain (by decide +kernel) rfl
theorem r_X3_list_84 : IOK WB AD SR FW TB md_X3_list 84 (.aload_n 0, 0, 0, 0, []) := io_plain (by decide +kernel) rfl
theorem r_X3_list_85 : IOK WB AD SR FW TB md_X3_list 85 (.getfield 52, 3, 2, 2, []) := io_get (by decide +kernel) fo_RX3_52
theorem r_X3_list_88 : IOK WB AD SR FW TB md_X3_list 88 (.getfield 83, 4, 15, 0, []) := io_get (by decide +kernel) fo_RX3_83
theorem r_X3_list_91 : IOK WB AD SR FW TB md_X3_list 91 (.putfield 86, 3, 14, 0, []) := io_put (by decide +kernel) fo_RX3_86 po_RX3_0_3_14_0
theorem r_X3_list_94 : IOK WB AD SR FW TB md_X3_list 94 (.aload_n 0, 0, 0, 0, []) := io_plain (by decide +kernel) rfl
theorem r_X3_list_95 : IOK WB AD SR FW TB md_X3_list 95 (.aload_n 0, 0, 0, 0, []) := io_plain (by decide +kernel) rfl
theorem r_X3_list_96 : IOK WB AD SR FW TB md_X3_list 96 (.getfield 38, 3, 0, 2, []) := io_get (by decide +kernel) fo_RX3_38
theorem r_X3_list_99 : IOK WB AD SR FW TB md_X3_list 99 (.getfield 87, 8, 2, 0, []) := io_get (by decide +kernel) fo_RX3_87
