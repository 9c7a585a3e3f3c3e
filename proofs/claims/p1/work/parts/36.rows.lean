theorem ro_X7_init : RowsOK (md_X7_init, tl_X7_init) tf_X7_init := rows_app ⟨tq_X7_init_0, ok_X7_init_0⟩ (⟨tq_X7_init_1, ok_X7_init_1⟩)
theorem r_X10_init_0 : IOK WB AD SR FW TB md_X10_init 0 (.aload_n 0, 0, 0, 0, []) := io_plain (by decide +kernel) rfl
theorem r_X10_init_1 : IOK WB AD SR FW TB md_X10_init 1 (.invokespecial 3, 1000, 0, 0, []) := io_obj (by decide +kernel) (wb_1 40 rfl rfl) ob_1 ob_2
theorem r_X10_init_4 : IOK WB AD SR FW TB md_X10_init 4 (.aload_n 0, 0, 0, 0, []) := io_plain (by decide +kernel) rfl
theorem r_X10_init_5 : IOK WB AD SR FW TB md_X10_init 5 (.new 9, 8, 0, 0, [0, 0, 2, 2, 2, 2, 2, 2, 2, 2, 2]) := io_new (by decide +kernel) rfl no_RX10_9
theorem r_X10_init_8 : IOK WB AD SR FW TB md_X10_init 8 (.dup, 0, 0, 0, []) := io_plain (by decide +kernel) rfl
theorem r_X10_init_9 : IOK WB AD SR FW TB md_X10_init 9 (.invokespecial 11, 5, 8, 0, []) := io_spec (by decide +kernel) tb_X7_init (wb_1 45 rfl rfl) in_X7_init rfl rfl rfl pr_X7_init (by decide)
theorem r_X10_init_12 : IOK WB AD SR FW TB md_X10_init 12 (.putfield 12, 11, 0, 2, []) := io_put (by decide +kernel) fo_RX10_12 po_RX10_1_11_0_2
theorem r_X10_init_15 : IOK WB AD SR FW TB md_X10_init 15 (.aload_n 0, 0, 0, 0, []) := io_plain (by decide +kernel) rfl
theorem r_X10_init_16 : IOK WB AD SR FW TB md_X10_init 16 (.new 16, 9, 0, 0, [2, 2, 0, 2, 0, 2, 2, 2, 0, 0, 1]) := io_new (by decide +kernel) rfl no_RX10_16
theorem r_X10_init_19 : IOK WB AD SR FW TB md_X10_init 19 (.dup, 0, 0, 0, []) := io_plain (by decide +kernel) rfl
theorem r_X10_init_20 : IOK WB AD SR FW TB md_X10_init 20 (.aload_n 0, 0, 0, 0, []) := io_plain (by decide +kernel) rfl
theorem r_X10_init_21 : IOK WB AD SR FW TB md_X10_init 21 (.getfield 12, 11, 0, 2, []) := io_get (by decide +kernel) fo_RX10_12
theorem r_X10_init_24 : IOK WB AD SR FW TB md_X10_init 24 (.invokespecial 18, 4, 9, 0, []) := io_spec (by decide +kernel) tb_X8_init (wb_1 111 rfl rfl) in_X8_init rfl rfl rfl pr_X8_init (by decide)
theorem r_X10_init_27 : IOK WB AD SR FW TB md_X10_init 27 (.putfield 21, 11, 1, 2, []) := io_put (by decide +kernel) fo_RX10_21 po_RX10_1_11_1_2
theorem r_X10_init_30 : IOK WB AD SR FW TB md_X10_init 30 (.aload_n 0, 0, 0, 0, []) := io_plain (by decide +kernel) rfl
theorem r_X10_init_31 : IOK WB AD SR FW TB md_X10_init 31 (.new 25, 3, 0, 0, [2, 2, 0, 0, 2]) := io_new (by decide +kernel) rfl no_RX10_25
theorem r_X10_init_34 : IOK WB AD SR FW TB md_X10_init 34 (.dup, 0, 0, 0, []) := io_plain (by decide +kernel) rfl
theorem r_X10_init_35 : IOK WB AD SR FW TB md_X10_init 35 (.aload_n 0, 0, 0, 0, []) := io_plain (by decide +kernel) rfl
theorem r_X10_init_36 : IOK WB AD SR FW TB md_X10_init 36 (.getfield 21, 11, 1, 2, []) := io_get (by decide +kernel) fo_RX10_21
theorem r_X10_init_39 : IOK WB AD SR FW TB md_X10_init 39 (.invokespecial 27, 18, 3, 0, []) := io_spec (by decide +kernel) tb_X2_init (wb_1 176 rfl rfl) in_X2_init rfl rfl rfl pr_X2_init (by decide)
theorem r_X10_init_42 : IOK WB AD SR FW TB md_X10_init 42 (.putfield 30, 11, 2, 2, []) := io_put (by decide +kernel) fo_RX10_30 po_RX10_1_11_2_2
theorem r_X10_init_45 : IOK WB AD SR FW TB md_X10_init 45 (.aload_n 0, 0, 0, 0, []) := io_plain (by decide +kernel) rfl
theorem r_X10_init_46 : IOK WB AD SR FW TB md_X10_init 46 (.new 34, 4, 0, 0, [2, 2, 2, 2, 2, 0, 2, 2, 2, 2, 2, 2, 0, 0, 0, 0]) := io_new (by decide +kernel) rfl no_RX10_34
theorem r_X10_init_49 : IOK WB AD SR FW TB md_X10_init 49 (.dup, 0, 0, 0, []) := io_plain (by decide +kernel) rfl
theorem r_X10_init_50 : IOK WB AD SR FW TB md_X10_init 50 (.aload_n 0, 0, 0, 0, []) := io_plain (by decide +kernel) rfl
theorem r_X10_init_51 : IOK WB AD SR FW TB md_X10_init 51 (.getfield 21, 11, 1, 2, []) := io_get (by decide +kernel) fo_RX10_21
theorem r_X10_init_54 : IOK WB AD SR FW TB md_X10_init 54 (.invokespecial 36, 8, 4, 0, []) := io_spec (by decide +kernel) tb_X3_init (wb_1 208 rfl rfl) in_X3_init rfl rfl rfl pr_X3_init (by decide)
theorem r_X10_init_57 : IOK WB AD SR FW TB md_X10_init 57 (.putfield 37, 11, 3, 2, []) := io_put (by decide +kernel) fo_RX10_37 po_RX10_1_11_3_2
theorem r_X10_init_60 : IOK WB AD SR FW TB md_X10_init 60 (.aload_n 0, 0, 0, 0, []) := io_plain (by decide +kernel) rfl
theorem r_X10_init_61 : IOK WB AD SR FW TB md_X10_init 61 (.new 41, 7, 0, 0, [2, 2, 2, 0, 0, 2, 2, 2, 2, 2]) := io_new (by decide +kernel) rfl no_RX10_41
theorem r_X10_init_64 : IOK WB AD SR FW TB md_X10_init 64 (.dup, 0, 0, 0, []) := io_plain (by decide +kernel) rfl
theorem r_X10_init_65 : IOK WB AD SR FW TB md_X10_init 65 (.aload_n 0, 0, 0, 0, []) := io_plain (by decide +kernel) rfl
theorem r_X10_init_66 : IOK WB AD SR FW TB md_X10_init 66 (.getfield 30, 11, 2, 2, []) := io_get (by decide +kernel) fo_RX10_30
theorem r_X10_init_69 : IOK WB AD SR FW TB md_X10_init 69 (.aload_n 0, 0, 0, 0, []) := io_plain (by decide +kernel) rfl
theorem r_X10_init_70 : IOK WB AD SR FW TB md_X10_init 70 (.getfield 37, 11, 3, 2, []) := io_get (by decide +kernel) fo_RX10_37
theorem r_X10_init_73 : IOK WB AD SR FW TB md_X10_init 73 (.invokespecial 43, 12, 7, 0, []) := io_spec (by decide +kernel) tb_X6_init (wb_2 91 rfl rfl) in_X6_init rfl rfl rfl pr_X6_init (by decide)
theorem r_X10_init_76 : IOK WB AD SR FW TB md_X10_init 76 (.putfield 46, 11, 4, 2, []) := io_put (by decide +kernel) fo_RX10_46 po_RX10_1_11_4_2
theorem r_X10_init_79 : IOK WB AD SR FW TB md_X10_init 79 (.new 50, 10, 0, 0, [2, 2, 2, 2, 0, 0, 0, 0, 0, 0, 0, 0, 0, 0, 0]) := io_new (by decide +kernel) rfl no_RX10_50
theorem r_X10_init_82 : IOK WB AD SR FW TB md_X10_init 82 (.dup, 0, 0, 0, []) := io_plain (by decide +kernel) rfl
theorem r_X10_init_83 : IOK WB AD SR FW TB md_X10_init 83 (.aload_n 0, 0, 0, 0, []) := io_plain (by decide +kernel) rfl
set_option maxRecDepth 100000 in
theorem ok_X10_init_0 : ∀ q ∈ tl_X10_init_0, IOK WB AD SR FW TB md_X10_init q.1 q.2 := List.forall_mem_cons.mpr ⟨r_X10_init_0, List.forall_mem_cons.mpr ⟨r_X10_init_1, List.forall_mem_cons.mpr ⟨r_X10_init_4, List.forall_mem_cons.mpr ⟨r_X10_init_5, List.forall_mem_cons.mpr ⟨r_X10_init_8, List.forall_mem_cons.mpr ⟨r_X10_init_9, List.forall_mem_cons.mpr ⟨r_X10_init_12, List.forall_mem_cons.mpr ⟨r_X10_init_15, List.forall_mem_cons.mpr ⟨r_X10_init_16, List.forall_mem_cons.mpr ⟨r_X10_init_19, List.forall_mem_cons.mpr ⟨r_X10_init_20, List.forall_mem_cons.mpr ⟨r_X10_init_21, List.forall_mem_cons.mpr ⟨r_X10_init_24, List.forall_mem_cons.mpr ⟨r_X10_init_27, List.forall_mem_cons.mpr ⟨r_X10_init_30, List.forall_mem_cons.mpr ⟨r_X10_init_31, List.forall_mem_cons.mpr ⟨r_X10_init_34, List.forall_mem_cons.mpr ⟨r_X10_init_35, List.forall_mem_cons.mpr ⟨r_X10_init_36, List.forall_mem_cons.mpr ⟨r_X10_init_39, List.forall_mem_cons.mpr ⟨r_X10_init_42, List.forall_mem_cons.mpr ⟨r_X10_init_45, List.forall_mem_cons.mpr ⟨r_X10_init_46, List.forall_mem_cons.mpr ⟨r_X10_init_49, List.forall_mem_cons.mpr ⟨r_X10_init_50, List.forall_mem_cons.mpr ⟨r_X10_init_51, List.forall_mem_cons.mpr ⟨r_X10_init_54, List.forall_mem_cons.mpr ⟨r_X10_init_57, List.forall_mem_cons.mpr ⟨r_X10_init_60, List.forall_mem_cons.mpr ⟨r_X10_init_61, List.forall_mem_cons.mpr ⟨r_X10_init_64, List.forall_mem_cons.mpr ⟨r_X10_init_65, List.forall_mem_cons.mpr ⟨r_X10_init_66, List.forall_mem_cons.mpr ⟨r_X10_init_69, List.forall_mem_cons.mpr ⟨r_X10_init_70, List.forall_mem_cons.mpr ⟨r_X10_init_73, List.forall_mem_cons.mpr ⟨r_X10_init_76, List.forall_mem_cons.mpr ⟨r_X10_init_79, List.forall_mem_cons.mpr ⟨r_X10_init_82, List.forall_mem_cons.mpr ⟨r_X10_init_83, fun _ h => absurd h List.not_mem_nil⟩⟩⟩⟩⟩⟩⟩⟩⟩⟩⟩⟩⟩⟩⟩⟩⟩⟩⟩⟩⟩⟩⟩⟩⟩⟩⟩⟩⟩⟩⟩⟩⟩⟩⟩⟩⟩⟩⟩⟩
set_option maxRecDepth 100000 in
theorem tq_X10_init_0 : tf_X10_init_0 = tl_X10_init_0.map (fun q => (q.1, stepOf NPf md_X10_init q.2)) := rfl
theorem r_X10_init_84 : IOK WB AD SR FW TB md_X10_init 84 (.getfield 46, 11, 4, 2, []) := io_get (by decide +kernel) fo_RX10_46
theorem r_X10_init_87 : IOK WB AD SR FW TB md_X10_init 87 (.invokespecial 52, 15, 10, 0, []) := io_spec (by decide +kernel) tb_X9_init (wb_2 137 rfl rfl) in_X9_init rfl rfl rfl pr_X9_init (by decide)
theorem r_X10_init_90 : IOK WB AD SR FW TB md_X10_init 90 (.astore_n 1, 0, 0, 0, []) := io_plain (by decide +kernel) rfl
theorem r_X10_init_91 : IOK WB AD SR FW TB md_X10_init 91 (.aload_n 0, 0, 0, 0, []) := io_plain (by decide +kernel) rfl
theorem r_X10_init_92 : IOK WB AD SR FW TB md_X10_init 92 (.new 55, 2, 0, 0, [2, 2, 0, 1, 2, 2, 2, 0, 0]) := io_new (by decide +kernel) rfl no_RX10_55
theorem r_X10_init_95 : IOK WB AD SR FW TB md_X10_init 95 (.dup, 0, 0, 0, []) := io_plain (by decide +kernel) rfl
theorem r_X10_init_96 : IOK WB AD SR FW TB md_X10_init 96 (.aload_n 1, 0, 0, 0, []) := io_plain (by decide +kernel) rfl
theorem r_X10_init_97 : IOK WB AD SR FW TB md_X10_init 97 (.invokespecial 57, 13, 2, 0, []) := io_spec (by decide +kernel) tb_X1_init (wb_2 197 rfl rfl) in_X1_init rfl rfl rfl pr_X1_init (by decide)
theorem r_X10_init_100 : IOK WB AD SR FW TB md_X10_init 100 (.putfield 60, 11, 5, 2, []) := io_put (by decide +kernel) fo_RX10_60 po_RX10_1_11_5_2
theorem r_X10_init_103 : IOK WB AD SR FW TB md_X10_init 103 (.aload_n 0, 0, 0, 0, []) := io_plain (by decide +kernel) rfl
theorem r_X10_init_104 : IOK WB AD SR FW TB md_X10_init 104 (.new 64, 6, 0, 0, [2, 2, 0, 0, 2, 2, 2, 0, 0]) := io_new (by decide +kernel) rfl no_RX10_64
theorem r_X10_init_107 : IOK WB AD SR FW TB md_X10_init 107 (.dup, 0, 0, 0, []) := io_plain (by decide +kernel) rfl
theorem r_X10_init_108 : IOK WB AD SR FW TB md_X10_init 108 (.aload_n 1, 0, 0, 0, []) := io_plain (by decide +kernel) rfl
theorem r_X10_init_109 : IOK WB AD SR FW TB md_X10_init 109 (.invokespecial 66, 14, 6, 0, []) := io_spec (by decide +kernel) tb_X5_init (wb_2 235 rfl rfl) in_X5_init rfl rfl rfl pr_X5_init (by decide)
theorem r_X10_init_112 : IOK WB AD SR FW TB md_X10_init 112 (.putfield 67, 11, 6, 2, []) := io_put (by decide +kernel) fo_RX10_67 po_RX10_1_11_6_2
theorem r_X10_init_115 : IOK WB AD SR FW TB md_X10_init 115 (.aload_n 0, 0, 0, 0, []) := io_plain (by decide +kernel) rfl
theorem r_X10_init_116 : IOK WB AD SR FW TB md_X10_init 116 (.new 71, 1, 0, 0, [2, 2, 2, 2, 0, 2, 2, 2, 0, 2, 0, 0, 0, 2]) := io_new (by decide +kernel) rfl no_RX10_71
theorem r_X10_init_119 : IOK WB AD SR FW TB md_X10_init 119 (.dup, 0, 0, 0, []) := io_plain (by decide +kernel) rfl
theorem r_X10_init_120 : IOK WB AD SR FW TB md_X10_init 120 (.aload_n 0, 0, 0, 0, []) := io_plain (by decide +kernel) rfl
theorem r_X10_init_121 : IOK WB AD SR FW TB md_X10_init 121 (.getfield 46, 11, 4, 2, []) := io_get (by decide +kernel) fo_RX10_46
theorem r_X10_init_124 : IOK WB AD SR FW TB md_X10_init 124 (.invokespecial 73, 9, 1, 0, []) := io_spec (by decide +kernel) tb_X0_init (wb_3 31 rfl rfl) in_X0_init rfl rfl rfl pr_X0_init (by decide)
theorem r_X10_init_127 : IOK WB AD SR FW TB md_X10_init 127 (.putfield 74, 11, 7, 2, []) := io_put (by decide +kernel) fo_RX10_74 po_RX10_1_11_7_2
theorem r_X10_init_130 : IOK WB AD SR FW TB md_X10_init 130 (.return_, 0, 0, 0, []) := io_void (by decide +kernel) rfl
set_option maxRecDepth 100000 in
theorem ok_X10_init_1 : ∀ q ∈ tl_X10_init_1, IOK WB AD SR FW TB md_X10_init q.1 q.2 := List.forall_mem_cons.mpr ⟨r_X10_init_84, List.forall_mem_cons.mpr ⟨r_X10_init_87, List.forall_mem_cons.mpr ⟨r_X10_init_90, List.forall_mem_cons.mpr ⟨r_X10_init_91, List.forall_mem_cons.mpr ⟨r_X10_init_92, List.forall_mem_cons.mpr ⟨r_X10_init_95, List.forall_mem_cons.mpr ⟨r_X10_init_96, List.forall_mem_cons.mpr ⟨r_X10_init_97, List.forall_mem_cons.mpr ⟨r_X10_init_100, List.forall_mem_cons.mpr ⟨r_X10_init_103, List.forall_mem_cons.mpr ⟨r_X10_init_104, List.forall_mem_cons.mpr ⟨r_X10_init_107, List.forall_mem_cons.mpr ⟨r_X10_init_108, List.forall_mem_cons.mpr ⟨r_X10_init_109, List.forall_mem_cons.mpr ⟨r_X10_init_112, List.forall_mem_cons.mpr ⟨r_X10_init_115, List.forall_mem_cons.mpr ⟨r_X10_init_116, List.forall_mem_cons.mpr ⟨r_X10_init_119, List.forall_mem_cons.mpr ⟨r_X10_init_120, List.forall_mem_cons.mpr ⟨r_X10_init_121, List.forall_mem_cons.mpr ⟨r_X10_init_124, List.forall_mem_cons.mpr ⟨r_X10_init_127, List.forall_mem_cons.mpr ⟨r_X10_init_130, fun _ h => absurd h List.not_mem_nil⟩⟩⟩⟩⟩⟩⟩⟩⟩⟩⟩⟩⟩⟩⟩⟩⟩⟩⟩⟩⟩⟩⟩
set_option maxRecDepth 100000 in
theorem tq_X10_init_1 : tf_X10_init_1 = tl_X10_init_1.map (fun q => (q.1, stepOf NPf md_X10_init q.2)) := rfl
theorem ro_X10_init : RowsOK (md_X10_init, tl_X10_init) tf_X10_init := rows_app ⟨tq_X10_init_0, ok_X10_init_0⟩ (⟨tq_X10_init_1, ok_X10_init_1⟩)
theorem r_X4_init_0 : IOK WB AD SR FW TB md_X4_init 0 (.aload_n 0, 0, 0, 0, []) := io_plain (by decide +kernel) rfl
theorem r_X4_init_1 : IOK WB AD SR FW TB md_X4_init 1 (.invokespecial 3, 1000, 0, 0, []) := io_obj (by decide +kernel) (wb_1 217 rfl rfl) ob_1 ob_2
theorem r_X4_init_4 : IOK WB AD SR FW TB md_X4_init 4 (.aload_n 0, 0, 0, 0, []) := io_plain (by decide +kernel) rfl
theorem r_X4_init_5 : IOK WB AD SR FW TB md_X4_init 5 (.sipush 256, 0, 0, 0, []) := io_plain (by decide +kernel) rfl
theorem r_X4_init_8 : IOK WB AD SR FW TB md_X4_init 8 (.newarray .int, 0, 0, 0, []) := io_newa (by decide +kernel) (Or.inl ⟨rfl, rfl⟩) ac_int
theorem r_X4_init_10 : IOK WB AD SR FW TB md_X4_init 10 (.putfield 11, 5, 3, 2, []) := io_put (by decide +kernel) fo_RX4_11 po_RX4_1_5_3_2
theorem r_X4_init_13 : IOK WB AD SR FW TB md_X4_init 13 (.aload_n 0, 0, 0, 0, []) := io_plain (by decide +kernel) rfl
theorem r_X4_init_14 : IOK WB AD SR FW TB md_X4_init 14 (.sipush 256, 0, 0, 0, []) := io_plain (by decide +kernel) rfl
theorem r_X4_init_17 : IOK WB AD SR FW TB md_X4_init 17 (.newarray .int, 0, 0, 0, []) := io_newa (by decide +kernel) (Or.inl ⟨rfl, rfl⟩) ac_int
theorem r_X4_init_19 : IOK WB AD SR FW TB md_X4_init 19 (.putfield 15, 5, 4, 2, []) := io_put (by decide +kernel) fo_RX4_15 po_RX4_1_5_4_2
theorem r_X4_init_22 : IOK WB AD SR FW TB md_X4_init 22 (.aload_n 0, 0, 0, 0, []) := io_plain (by decide +kernel) rfl
theorem r_X4_init_23 : IOK WB AD SR FW TB md_X4_init 23 (.sipush 256, 0, 0, 0, []) := io_plain (by decide +kernel) rfl
theorem r_X4_init_26 : IOK WB AD SR FW TB md_X4_init 26 (.newarray .int, 0, 0, 0, []) := io_newa (by decide +kernel) (Or.inl ⟨rfl, rfl⟩) ac_int
theorem r_X4_init_28 : IOK WB AD SR FW TB md_X4_init 28 (.putfield 18, 5, 5, 2, []) := io_put (by decide +kernel) fo_RX4_18 po_RX4_1_5_5_2
theorem r_X4_init_31 : IOK WB AD SR FW TB md_X4_init 31 (.aload_n 0, 0, 0, 0, []) := io_plain (by decide +kernel) rfl
theorem r_X4_init_32 : IOK WB AD SR FW TB md_X4_init 32 (.sipush 256, 0, 0, 0, []) := io_plain (by decide +kernel) rfl
theorem r_X4_init_35 : IOK WB AD SR FW TB md_X4_init 35 (.newarray .int, 0, 0, 0, []) := io_newa (by decide +kernel) (Or.inl ⟨rfl, rfl⟩) ac_int
theorem r_X4_init_37 : IOK WB AD SR FW TB md_X4_init 37 (.putfield 21, 5, 6, 2, []) := io_put (by decide +kernel) fo_RX4_21 po_RX4_1_5_6_2
theorem r_X4_init_40 : IOK WB AD SR FW TB md_X4_init 40 (.aload_n 0, 0, 0, 0, []) := io_plain (by decide +kernel) rfl
theorem r_X4_init_41 : IOK WB AD SR FW TB md_X4_init 41 (.sipush 256, 0, 0, 0, []) := io_plain (by decide +kernel) rfl
theorem r_X4_init_44 : IOK WB AD SR FW TB md_X4_init 44 (.newarray .int, 0, 0, 0, []) := io_newa (by decide +kernel) (Or.inl ⟨rfl, rfl⟩) ac_int
theorem r_X4_init_46 : IOK WB AD SR FW TB md_X4_init 46 (.putfield 24, 5, 7, 2, []) := io_put (by decide +kernel) fo_RX4_24 po_RX4_1_5_7_2
theorem r_X4_init_49 : IOK WB AD SR FW TB md_X4_init 49 (.aload_n 0, 0, 0, 0, []) := io_plain (by decide +kernel) rfl
theorem r_X4_init_50 : IOK WB AD SR FW TB md_X4_init 50 (.sipush 256, 0, 0, 0, []) := io_plain (by decide +kernel) rfl
theorem r_X4_init_53 : IOK WB AD SR FW TB md_X4_init 53 (.newarray .int, 0, 0, 0, []) := io_newa (by decide +kernel) (Or.inl ⟨rfl, rfl⟩) ac_int
theorem r_X4_init_55 : IOK WB AD SR FW TB md_X4_init 55 (.putfield 27, 5, 8, 2, []) := io_put (by decide +kernel) fo_RX4_27 po_RX4_1_5_8_2
theorem r_X4_init_58 : IOK WB AD SR FW TB md_X4_init 58 (.aload_n 0, 0, 0, 0, []) := io_plain (by decide +kernel) rfl
theorem r_X4_init_59 : IOK WB AD SR FW TB md_X4_init 59 (.sipush 256, 0, 0, 0, []) := io_plain (by decide +kernel) rfl
theorem r_X4_init_62 : IOK WB AD SR FW TB md_X4_init 62 (.newarray .int, 0, 0, 0, []) := io_newa (by decide +kernel) (Or.inl ⟨rfl, rfl⟩) ac_int
theorem r_X4_init_64 : IOK WB AD SR FW TB md_X4_init 64 (.putfield 30, 5, 10, 2, []) := io_put (by decide +kernel) fo_RX4_30 po_RX4_1_5_10_2
theorem r_X4_init_67 : IOK WB AD SR FW TB md_X4_init 67 (.aload_n 0, 0, 0, 0, []) := io_plain (by decide +kernel) rfl
theorem r_X4_init_68 : IOK WB AD SR FW TB md_X4_init 68 (.sipush 256, 0, 0, 0, []) := io_plain (by decide +kernel) rfl
theorem r_X4_init_71 : IOK WB AD SR FW TB md_X4_init 71 (.newarray .int, 0, 0, 0, []) := io_newa (by decide +kernel) (Or.inl ⟨rfl, rfl⟩) ac_int
theorem r_X4_init_73 : IOK WB AD SR FW TB md_X4_init 73 (.putfield 33, 5, 11, 2, []) := io_put (by decide +kernel) fo_RX4_33 po_RX4_1_5_11_2
theorem r_X4_init_76 : IOK WB AD SR FW TB md_X4_init 76 (.aload_n 0, 0, 0, 0, []) := io_plain (by decide +kernel) rfl
theorem r_X4_init_77 : IOK WB AD SR FW TB md_X4_init 77 (.bipush 100, 0, 0, 0, []) := io_plain (by decide +kernel) rfl
theorem r_X4_init_79 : IOK WB AD SR FW TB md_X4_init 79 (.newarray .int, 0, 0, 0, []) := io_newa (by decide +kernel) (Or.inl ⟨rfl, rfl⟩) ac_int
theorem r_X4_init_81 : IOK WB AD SR FW TB md_X4_init 81 (.putfield 36, 5, 12, 2, []) := io_put (by decide +kernel) fo_RX4_36 po_RX4_1_5_12_2
theorem r_X4_init_84 : IOK WB AD SR FW TB md_X4_init 84 (.aload_n 0, 0, 0, 0, []) := io_plain (by decide +kernel) rfl
theorem r_X4_init_85 : IOK WB AD SR FW TB md_X4_init 85 (.sipush 640, 0, 0, 0, []) := io_plain (by decide +kernel) rfl
set_option maxRecDepth 100000 in
theorem ok_X4_init_0 : ∀ q ∈ tl_X4_init_0, IOK WB AD SR FW TB md_X4_init q.1 q.2 := List.forall_mem_cons.mpr ⟨r_X4_init_0, List.forall_mem_cons.mpr ⟨r_X4_init_1, List.forall_mem_cons.mpr ⟨r_X4_init_4, List.forall_mem_cons.mpr ⟨r_X4_init_5, List.forall_mem_cons.mpr ⟨r_X4_init_8, List.forall_mem_cons.mpr ⟨r_X4_init_10, List.forall_mem_cons.mpr ⟨r_X4_init_13, List.forall_mem_cons.mpr ⟨r_X4_init_14, List.forall_mem_cons.mpr ⟨r_X4_init_17, List.forall_mem_cons.mpr ⟨r_X4_init_19, List.forall_mem_cons.mpr ⟨r_X4_init_22, List.forall_mem_cons.mpr ⟨r_X4_init_23, List.forall_mem_cons.mpr ⟨r_X4_init_26, List.forall_mem_cons.mpr ⟨r_X4_init_28, List.forall_mem_cons.mpr ⟨r_X4_init_31, List.forall_mem_cons.mpr ⟨r_X4_init_32, List.forall_mem_cons.mpr ⟨r_X4_init_35, List.forall_mem_cons.mpr ⟨r_X4_init_37, List.forall_mem_cons.mpr ⟨r_X4_init_40, List.forall_mem_cons.mpr ⟨r_X4_init_41, List.forall_mem_cons.mpr ⟨r_X4_init_44, List.forall_mem_cons.mpr ⟨r_X4_init_46, List.forall_mem_cons.mpr ⟨r_X4_init_49, List.forall_mem_cons.mpr ⟨r_X4_init_50, List.forall_mem_cons.mpr ⟨r_X4_init_53, List.forall_mem_cons.mpr ⟨r_X4_init_55, List.forall_mem_cons.mpr ⟨r_X4_init_58, List.forall_mem_cons.mpr ⟨r_X4_init_59, List.forall_mem_cons.mpr ⟨r_X4_init_62, List.forall_mem_cons.mpr ⟨r_X4_init_64, List.forall_mem_cons.mpr ⟨r_X4_init_67, List.forall_mem_cons.mpr ⟨r_X4_init_68, List.forall_mem_cons.mpr ⟨r_X4_init_71, List.forall_mem_cons.mpr ⟨r_X4_init_73, List.forall_mem_cons.mpr ⟨r_X4_init_76, List.forall_mem_cons.mpr ⟨r_X4_init_77, List.forall_mem_cons.mpr ⟨r_X4_init_79, List.forall_mem_cons.mpr ⟨r_X4_init_81, List.forall_mem_cons.mpr ⟨r_X4_init_84, List.forall_mem_cons.mpr ⟨r_X4_init_85, fun _ h => absurd h List.not_mem_nil⟩⟩⟩⟩⟩⟩⟩⟩⟩⟩⟩⟩⟩⟩⟩⟩⟩⟩⟩⟩⟩⟩⟩⟩⟩⟩⟩⟩⟩⟩⟩⟩⟩⟩⟩⟩⟩⟩⟩⟩
set_option maxRecDepth 100000 in
theorem tq_X4_init_0 : tf_X4_init_0 = tl_X4_init_0.map (fun q => (q.1, stepOf NPf md_X4_init q.2)) := rfl
theorem r_X4_init_88 : IOK WB AD SR FW TB md_X4_init 88 (.newarray .int, 0, 0, 0, []) := io_newa (by decide +kernel) (Or.inl ⟨rfl, rfl⟩) ac_int
theorem r_X4_init_90 : IOK WB AD SR FW TB md_X4_init 90 (.putfield 39, 5, 13, 2, []) := io_put (by decide +kernel) fo_RX4_39 po_RX4_1_5_13_2
theorem r_X4_init_93 : IOK WB AD SR FW TB md_X4_init 93 (.aload_n 0, 0, 0, 0, []) := io_plain (by decide +kernel) rfl
theorem r_X4_init_94 : IOK WB AD SR FW TB md_X4_init 94 (.bipush 16, 0, 0, 0, []) := io_plain (by decide +kernel) rfl
theorem r_X4_init_96 : IOK WB AD SR FW TB md_X4_init 96 (.newarray .int, 0, 0, 0, []) := io_newa (by decide +kernel) (Or.inl ⟨rfl, rfl⟩) ac_int
theorem r_X4_init_98 : IOK WB AD SR FW TB md_X4_init 98 (.putfield 42, 5, 14, 2, []) := io_put (by decide +kernel) fo_RX4_42 po_RX4_1_5_14_2
theorem r_X4_init_101 : IOK WB AD SR FW TB md_X4_init 101 (.aload_n 0, 0, 0, 0, []) := io_plain (by decide +kernel) rfl
theorem r_X4_init_102 : IOK WB AD SR FW TB md_X4_init 102 (.aload_n 1, 0, 0, 0, []) := io_plain (by decide +kernel) rfl
theorem r_X4_init_103 : IOK WB AD SR FW TB md_X4_init 103 (.putfield 45, 5, 0, 2, []) := io_put (by decide +kernel) fo_RX4_45 po_RX4_1_5_0_2
theorem r_X4_init_106 : IOK WB AD SR FW TB md_X4_init 106 (.aload_n 0, 0, 0, 0, []) := io_plain (by decide +kernel) rfl
theorem r_X4_init_107 : IOK WB AD SR FW TB md_X4_init 107 (.aload_n 1, 0, 0, 0, []) := io_plain (by decide +kernel) rfl
theorem r_X4_init_108 : IOK WB AD SR FW TB md_X4_init 108 (.getfield 49, 9, 0, 2, []) := io_get (by decide +kernel) fo_RX4_49
theorem r_X4_init_111 : IOK WB AD SR FW TB md_X4_init 111 (.putfield 55, 5, 1, 2, []) := io_put (by decide +kernel) fo_RX4_55 po_RX4_1_5_1_2
theorem r_X4_init_114 : IOK WB AD SR FW TB md_X4_init 114 (.return_, 0, 0, 0, []) := io_void (by decide +kernel) rfl
set_option maxRecDepth 100000 in
theorem ok_X4_init_1 : ∀ q ∈ tl_X4_init_1, IOK WB AD SR FW TB md_X4_init q.1 q.2 := List.forall_mem_cons.mpr ⟨r_X4_init_88, List.forall_mem_cons.mpr ⟨r_X4_init_90, List.forall_mem_cons.mpr ⟨r_X4_init_93, List.forall_mem_cons.mpr ⟨r_X4_init_94, List.forall_mem_cons.mpr ⟨r_X4_init_96, List.forall_mem_cons.mpr ⟨r_X4_init_98, List.forall_mem_cons.mpr ⟨r_X4_init_101, List.forall_mem_cons.mpr ⟨r_X4_init_102, List.forall_mem_cons.mpr ⟨r_X4_init_103, List.forall_mem_cons.mpr ⟨r_X4_init_106, List.forall_mem_cons.mpr ⟨r_X4_init_107, List.forall_mem_cons.mpr ⟨r_X4_init_108, List.forall_mem_cons.mpr ⟨r_X4_init_111, List.forall_mem_cons.mpr ⟨r_X4_init_114, fun _ h => absurd h List.not_mem_nil⟩⟩⟩⟩⟩⟩⟩⟩⟩⟩⟩⟩⟩⟩
set_option maxRecDepth 100000 in
theorem tq_X4_init_1 : tf_X4_init_1 = tl_X4_init_1.map (fun q => (q.1, stepOf NPf md_X4_init q.2)) := rfl
theorem ro_X4_init : RowsOK (md_X4_init, tl_X4_init) tf_X4_init := rows_app ⟨tq_X4_init_0, ok_X4_init_0⟩ (⟨tq_X4_init_1, ok_X4_init_1⟩)
theorem r_X3_init_0 : IOK WB AD SR FW TB md_X3_init 0 (.aload_n 0, 0, 0, 0, []) := io_plain (by decide +kernel) rfl
theorem r_X3_init_1 : IOK WB AD SR FW TB md_X3_init 1 (.invokespecial 3, 1000, 0, 0, []) := io_obj (by decide +kernel) (wb_1 211 rfl rfl) ob_1 ob_2
theorem r_X3_init_4 : IOK WB AD SR FW TB md_X3_init 4 (.aload_n 0, 0, 0, 0, []) := io_plain (by decide +kernel) rfl
theorem r_X3_init_5 : IOK WB AD SR FW TB md_X3_init 5 (.sipush 256, 0, 0, 0, []) := io_plain (by decide +kernel) rfl
theorem r_X3_init_8 : IOK WB AD SR FW TB md_X3_init 8 (.newarray .int, 0, 0, 0, []) := io_newa (by decide +kernel) (Or.inl ⟨rfl, rfl⟩) ac_int
theorem r_X3_init_10 : IOK WB AD SR FW TB md_X3_init 10 (.putfield 11, 4, 3, 2, []) := io_put (by decide +kernel) fo_RX3_11 po_RX3_1_4_3_2
theorem r_X3_init_13 : IOK WB AD SR FW TB md_X3_init 13 (.aload_n 0, 0, 0, 0, []) := io_plain (by decide +kernel) rfl
theorem r_X3_init_14 : IOK WB AD SR FW TB md_X3_init 14 (.bipush 20, 0, 0, 0, []) := io_plain (by decide +kernel) rfl
theorem r_X3_init_16 : IOK WB AD SR FW TB md_X3_init 16 (.newarray .int, 0, 0, 0, []) := io_newa (by decide +kernel) (Or.inl ⟨rfl, rfl⟩) ac_int
theorem r_X3_init_18 : IOK WB AD SR FW TB md_X3_init 18 (.putfield 17, 4, 4, 2, []) := io_put (by decide +kernel) fo_RX3_17 po_RX3_1_4_4_2
theorem r_X3_init_21 : IOK WB AD SR FW TB md_X3_init 21 (.aload_n 0, 0, 0, 0, []) := io_plain (by decide +kernel) rfl
theorem r_X3_init_22 : IOK WB AD SR FW TB md_X3_init 22 (.bipush 64, 0, 0, 0, []) := io_plain (by decide +kernel) rfl
theorem r_X3_init_24 : IOK WB AD SR FW TB md_X3_init 24 (.newarray .int, 0, 0, 0, []) := io_newa (by decide +kernel) (Or.inl ⟨rfl, rfl⟩) ac_int
theorem r_X3_init_26 : IOK WB AD SR FW TB md_X3_init 26 (.putfield 20, 4, 6, 2, []) := io_put (by decide +kernel) fo_RX3_20 po_RX3_1_4_6_2
theorem r_X3_init_29 : IOK WB AD SR FW TB md_X3_init 29 (.aload_n 0, 0, 0, 0, []) := io_plain (by decide +kernel) rfl
theorem r_X3_init_30 : IOK WB AD SR FW TB md_X3_init 30 (.bipush 64, 0, 0, 0, []) := io_plain (by decide +kernel) rfl
theorem r_X3_init_32 : IOK WB AD SR FW TB md_X3_init 32 (.newarray .int, 0, 0, 0, []) := io_newa (by decide +kernel) (Or.inl ⟨rfl, rfl⟩) ac_int
theorem r_X3_init_34 : IOK WB AD SR FW TB md_X3_init 34 (.putfield 23, 4, 7, 2, []) := io_put (by decide +kernel) fo_RX3_23 po_RX3_1_4_7_2
theorem r_X3_init_37 : IOK WB AD SR FW TB md_X3_init 37 (.aload_n 0, 0, 0, 0, []) := io_plain (by decide +kernel) rfl
theorem r_X3_init_38 : IOK WB AD SR FW TB md_X3_init 38 (.bipush 64, 0, 0, 0, []) := io_plain (by decide +kernel) rfl
theorem r_X3_init_40 : IOK WB AD SR FW TB md_X3_init 40 (.newarray .int, 0, 0, 0, []) := io_newa (by decide +kernel) (Or.inl ⟨rfl, rfl⟩) ac_int
theorem r_X3_init_42 : IOK WB AD SR FW TB md_X3_init 42 (.putfield 26, 4, 8, 2, []) := io_put (by decide +kernel) fo_RX3_26 po_RX3_1_4_8_2
theorem r_X3_init_45 : IOK WB AD SR FW TB md_X3_init 45 (.aload_n 0, 0, 0, 0, []) := io_plain (by decide +kernel) rfl
theorem r_X3_init_46 : IOK WB AD SR FW TB md_X3_init 46 (.bipush 64, 0, 0, 0, []) := io_plain (by decide +kernel) rfl
theorem r_X3_init_48 : IOK WB AD SR FW TB md_X3_init 48 (.newarray .int, 0, 0, 0, []) := io_newa (by decide +kernel) (Or.inl ⟨rfl, rfl⟩) ac_int
theorem r_X3_init_50 : IOK WB AD SR FW TB md_X3_init 50 (.putfield 29, 4, 9, 2, []) := io_put (by decide +kernel) fo_RX3_29 po_RX3_1_4_9_2
theorem r_X3_init_53 : IOK WB AD SR FW TB md_X3_init 53 (.aload_n 0, 0, 0, 0, []) := io_plain (by decide +kernel) rfl
theorem r_X3_init_54 : IOK WB AD SR FW TB md_X3_init 54 (.bipush 64, 0, 0, 0, []) := io_plain (by decide +kernel) rfl
theorem r_X3_init_56 : IOK WB AD SR FW TB md_X3_init 56 (.newarray .int, 0, 0, 0, []) := io_newa (by decide +kernel) (Or.inl ⟨rfl, rfl⟩) ac_int
theorem r_X3_init_58 : IOK WB AD SR FW TB md_X3_init 58 (.putfield 32, 4, 10, 2, []) := io_put (by decide +kernel) fo_RX3_32 po_RX3_1_4_10_2
theorem r_X3_init_61 : IOK WB AD SR FW TB md_X3_init 61 (.aload_n 0, 0, 0, 0, []) := io_plain (by decide +kernel) rfl
theorem r_X3_init_62 : IOK WB AD SR FW TB md_X3_init 62 (.bipush 64, 0, 0, 0, []) := io_plain (by decide +kernel) rfl
theorem r_X3_init_64 : IOK WB AD SR FW TB md_X3_init 64 (.newarray .int, 0, 0, 0, []) := io_newa (by decide +kernel) (Or.inl ⟨rfl, rfl⟩) ac_int
theorem r_X3_init_66 : IOK WB AD SR FW TB md_X3_init 66 (.putfield 35, 4, 11, 2, []) := io_put (by decide +kernel) fo_RX3_35 po_RX3_1_4_11_2
theorem r_X3_init_69 : IOK WB AD SR FW TB md_X3_init 69 (.aload_n 0, 0, 0, 0, []) := io_plain (by decide +kernel) rfl
theorem r_X3_init_70 : IOK WB AD SR FW TB md_X3_init 70 (.aload_n 1, 0, 0, 0, []) := io_plain (by decide +kernel) rfl
theorem r_X3_init_71 : IOK WB AD SR FW TB md_X3_init 71 (.putfield 38, 4, 0, 2, []) := io_put (by decide +kernel) fo_RX3_38 po_RX3_1_4_0_2
theorem r_X3_init_74 : IOK WB AD SR FW TB md_X3_init 74 (.aload_n 0, 0, 0, 0, []) := io_plain (by decide +kernel) rfl
theorem r_X3_init_75 : IOK WB AD SR FW TB md_X3_init 75 (.aload_n 1, 0, 0, 0, []) := io_plain (by decide +kernel) rfl
theorem r_X3_init_76 : IOK WB AD SR FW TB md_X3_init 76 (.getfield 42, 9, 0, 2, []) := io_get (by decide +kernel) fo_RX3_42
set_option maxRecDepth 100000 in
theorem ok_X3_init_0 : ∀ q ∈ tl_X3_init_0, IOK WB AD SR FW TB md_X3_init q.1 q.2 := List.forall_mem_cons.mpr ⟨r_X3_init_0, List.forall_mem_cons.mpr ⟨r_X3_init_1, List.forall_mem_cons.mpr ⟨r_X3_init_4, List.forall_mem_cons.mpr ⟨r_X3_init_5, List.forall_mem_cons.mpr ⟨r_X3_init_8, List.forall_mem_cons.mpr ⟨r_X3_init_10, List.forall_mem_cons.mpr ⟨r_X3_init_13, List.forall_mem_cons.mpr ⟨r_X3_init_14, List.forall_mem_cons.mpr ⟨r_X3_init_16, List.forall_mem_cons.mpr ⟨r_X3_init_18, List.forall_mem_cons.mpr ⟨r_X3_init_21, List.forall_mem_cons.mpr ⟨r_X3_init_22, List.forall_mem_cons.mpr ⟨r_X3_init_24, List.forall_mem_cons.mpr ⟨r_X3_init_26, List.forall_mem_cons.mpr ⟨r_X3_init_29, List.forall_mem_cons.mpr ⟨r_X3_init_30, List.forall_mem_cons.mpr ⟨r_X3_init_32, List.forall_mem_cons.mpr ⟨r_X3_init_34, List.forall_mem_cons.mpr ⟨r_X3_init_37, List.forall_mem_cons.mpr ⟨r_X3_init_38, List.forall_mem_cons.mpr ⟨r_X3_init_40, List.forall_mem_cons.mpr ⟨r_X3_init_42, List.forall_mem_cons.mpr ⟨r_X3_init_45, List.forall_mem_cons.mpr ⟨r_X3_init_46, List.forall_mem_cons.mpr ⟨r_X3_init_48, List.forall_mem_cons.mpr ⟨r_X3_init_50, List.forall_mem_cons.mpr ⟨r_X3_init_53, List.forall_mem_cons.mpr ⟨r_X3_init_54, List.forall_mem_cons.mpr ⟨r_X3_init_56, List.forall_mem_cons.mpr ⟨r_X3_init_58, List.forall_mem_cons.mpr ⟨r_X3_init_61, List.forall_mem_cons.mpr ⟨r_X3_init_62, List.forall_mem_cons.mpr ⟨r_X3_init_64, List.forall_mem_cons.mpr ⟨r_X3_init_66, List.forall_mem_cons.mpr ⟨r_X3_init_69, List.forall_mem_cons.mpr ⟨r_X3_init_70, List.forall_mem_cons.mpr ⟨r_X3_init_71, List.forall_mem_cons.mpr ⟨r_X3_init_74, List.forall_mem_cons.mpr ⟨r_X3_init_75, List.forall_mem_cons.mpr ⟨r_X3_init_76, fun _ h => absurd h List.not_mem_nil⟩⟩⟩⟩⟩⟩⟩⟩⟩⟩⟩⟩⟩⟩⟩⟩⟩⟩⟩⟩⟩⟩⟩⟩⟩⟩⟩⟩⟩⟩⟩⟩⟩⟩⟩⟩⟩⟩⟩⟩
set_option maxRecDepth 100000 in
theorem tq_X3_init_0 : tf_X3_init_0 = tl_X3_init_0.map (fun q => (q.1, stepOf NPf md_X3_init q.2)) := rfl
theorem r_X3_init_79 : IOK WB AD SR FW TB md_X3_init 79 (.putfield 48, 4, 1, 2, []) := io_put (by decide +kernel) fo_RX3_48 po_RX3_1_4_1_2
theorem r_X3_init_82 : IOK WB AD SR FW TB md_X3_init 82 (.aload_n 0, 0, 0, 0, []) := io_plain (by decide +kernel) rfl
theorem r_X3_init_83 : IOK WB AD SR FW TB md_X3_init 83 (.new 9, 5, 0, 0, [2, 2, 0, 2, 2, 2, 2, 2, 2, 0, 2, 2, 2, 2, 2, 0]) := io_new (by decide +kernel) rfl no_RX3_9
theorem r_X3_init_86 : IOK WB AD SR FW TB md_X3_init 86 (.dup, 0, 0, 0, []) := io_plain (by decide +kernel) rfl
theorem r_X3_init_87 : IOK WB AD SR FW TB md_X3_init 87 (.aload_n 1, 0, 0, 0, []) := io_plain (by decide +kernel) rfl
theorem r_X3_init_88 : IOK WB AD SR FW TB md_X3_init 88 (.invokespecial 49, 7, 5, 0, []) := io_spec (by decide +kernel) tb_X4_init (wb_1 214 rfl rfl) in_X4_init rfl rfl rfl pr_X4_init (by decide)
theorem r_X3_init_91 : IOK WB AD SR FW TB md_X3_init 91 (.putfield 52, 4, 2, 2, []) := io_put (by decide +kernel) fo_RX3_52 po_RX3_1_4_2_2
theorem r_X3_init_94 : IOK WB AD SR FW TB md_X3_init 94 (.return_, 0, 0, 0, []) := io_void (by decide +kernel) rfl
set_option maxRecDepth 100000 in
theorem ok_X3_init_1 : ∀ q ∈ tl_X3_init_1, IOK WB AD SR FW TB md_X3_init q.1 q.2 := List.forall_mem_cons.mpr ⟨r_X3_init_79, List.forall_mem_cons.mpr ⟨r_X3_init_82, List.forall_mem_cons.mpr ⟨r_X3_init_83, List.forall_mem_cons.mpr ⟨r_X3_init_86, List.forall_mem_cons.mpr ⟨r_X3_init_87, List.forall_mem_cons.mpr ⟨r_X3_init_88, List.forall_mem_cons.mpr ⟨r_X3_init_91, List.forall_mem_cons.mpr ⟨r_X3_init_94, fun _ h => absurd h List.not_mem_nil⟩⟩⟩⟩⟩⟩⟩⟩
set_option maxRecDepth 100000 in
theorem tq_X3_init_1 : tf_X3_init_1 = tl_X3_init_1.map (fun q => (q.1, stepOf NPf md_X3_init q.2)) := rfl
theorem ro_X3_init : RowsOK (md_X3_init, tl_X3_init) tf_X3_init := rows_app ⟨tq_X3_init_0, ok_X3_init_0⟩ (⟨tq_X3_init_1, ok_X3_init_1⟩)
theorem r_X0_init_0 : IOK WB AD SR FW TB md_X0_init 0 (.aload_n 0, 0, 0, 0, []) := io_plain (by decide +kernel) rfl
theorem r_X0_init_1 : IOK WB AD SR FW TB md_X0_init 1 (.invokespecial 3, 1000, 0, 0, []) := io_obj (by decide +kernel) (wb_3 34 rfl rfl) ob_1 ob_2
theorem r_X0_init_4 : IOK WB AD SR FW TB md_X0_init 4 (.aload_n 0, 0, 0, 0, []) := io_plain (by decide +kernel) rfl
theorem r_X0_init_5 : IOK WB AD SR FW TB md_X0_init 5 (.bipush 60, 0, 0, 0, []) := io_plain (by decide +kernel) rfl
theorem r_X0_init_7 : IOK WB AD SR FW TB md_X0_init 7 (.newarray .int, 0, 0, 0, []) := io_newa (by decide +kernel) (Or.inl ⟨rfl, rfl⟩) ac_int
theorem r_X0_init_9 : IOK WB AD SR FW TB md_X0_init 9 (.putfield 9, 1, 5, 2, []) := io_put (by decide +kernel) fo_RX0_9 po_RX0_1_1_5_2
theorem r_X0_init_12 : IOK WB AD SR FW TB md_X0_init 12 (.aload_n 0, 0, 0, 0, []) := io_plain (by decide +kernel) rfl
theorem r_X0_init_13 : IOK WB AD SR FW TB md_X0_init 13 (.bipush 60, 0, 0, 0, []) := io_plain (by decide +kernel) rfl
theorem r_X0_init_15 : IOK WB AD SR FW TB md_X0_init 15 (.newarray .int, 0, 0, 0, []) := io_newa (by decide +kernel) (Or.inl ⟨rfl, rfl⟩) ac_int
theorem r_X0_init_17 : IOK WB AD SR FW TB md_X0_init 17 (.putfield 15, 1, 6, 2, []) := io_put (by decide +kernel) fo_RX0_15 po_RX0_1_1_6_2
theorem r_X0_init_20 : IOK WB AD SR FW TB md_X0_init 20 (.aload_n 0, 0, 0, 0, []) := io_plain (by decide +kernel) rfl
theorem r_X0_init_21 : IOK WB AD SR FW TB md_X0_init 21 (.bipush 60, 0, 0, 0, []) := io_plain (by decide +kernel) rfl
theorem r_X0_init_23 : IOK WB AD SR FW TB md_X0_init 23 (.newarray .int, 0, 0, 0, []) := io_newa (by decide +kernel) (Or.inl ⟨rfl, rfl⟩) ac_int
theorem r_X0_init_25 : IOK WB AD SR FW TB md_X0_init 25 (.putfield 18, 1, 7, 2, []) := io_put (by decide +kernel) fo_RX0_18 po_RX0_1_1_7_2
theorem r_X0_init_28 : IOK WB AD SR FW TB md_X0_init 28 (.aload_n 0, 0, 0, 0, []) := io_plain (by decide +kernel) rfl
theorem r_X0_init_29 : IOK WB AD SR FW TB md_X0_init 29 (.bipush 20, 0, 0, 0, []) := io_plain (by decide +kernel) rfl
theorem r_X0_init_31 : IOK WB AD SR FW TB md_X0_init 31 (.newarray .int, 0, 0, 0, []) := io_newa (by decide +kernel) (Or.inl ⟨rfl, rfl⟩) ac_int
theorem r_X0_init_33 : IOK WB AD SR FW TB md_X0_init 33 (.putfield 21, 1, 9, 2, []) := io_put (by decide +kernel) fo_RX0_21 po_RX0_1_1_9_2
theorem r_X0_init_36 : IOK WB AD SR FW TB md_X0_init 36 (.aload_n 0, 0, 0, 0, []) := io_plain (by decide +kernel) rfl
theorem r_X0_init_37 : IOK WB AD SR FW TB md_X0_init 37 (.bipush 21, 0, 0, 0, []) := io_plain (by decide +kernel) rfl
theorem r_X0_init_39 : IOK WB AD SR FW TB md_X0_init 39 (.newarray .long, 2, 0, 0, []) := io_newa (by decide +kernel) (Or.inr (Or.inr ⟨rfl, rfl⟩)) ac_long
theorem r_X0_init_41 : IOK WB AD SR FW TB md_X0_init 41 (.putfield 24, 1, 13, 2, []) := io_put (by decide +kernel) fo_RX0_24 po_RX0_1_1_13_2
theorem r_X0_init_44 : IOK WB AD SR FW TB md_X0_init 44 (.aload_n 0, 0, 0, 0, []) := io_plain (by decide +kernel) rfl
theorem r_X0_init_45 : IOK WB AD SR FW TB md_X0_init 45 (.aload_n 1, 0, 0, 0, []) := io_plain (by decide +kernel) rfl
theorem r_X0_init_46 : IOK WB AD SR FW TB md_X0_init 46 (.getfield 28, 7, 0, 2, []) := io_get (by decide +kernel) fo_RX0_28
theorem r_X0_init_49 : IOK WB AD SR FW TB md_X0_init 49 (.putfield 34, 1, 0, 2, []) := io_put (by decide +kernel) fo_RX0_34 po_RX0_1_1_0_2
theorem r_X0_init_52 : IOK WB AD SR FW TB md_X0_init 52 (.aload_n 0, 0, 0, 0, []) := io_plain (by decide +kernel) rfl
theorem r_X0_init_53 : IOK WB AD SR FW TB md_X0_init 53 (.aload_n 0, 0, 0, 0, []) := io_plain (by decide +kernel) rfl
theorem r_X0_init_54 : IOK WB AD SR FW TB md_X0_init 54 (.getfield 34, 1, 0, 2, []) := io_get (by decide +kernel) fo_RX0_34
theorem r_X0_init_57 : IOK WB AD SR FW TB md_X0_init 57 (.getfield 35, 9, 0, 2, []) := io_get (by decide +kernel) fo_RX0_35
theorem r_X0_init_60 : IOK WB AD SR FW TB md_X0_init 60 (.putfield 41, 1, 1, 2, []) := io_put (by decide +kernel) fo_RX0_41 po_RX0_1_1_1_2
theorem r_X0_init_63 : IOK WB AD SR FW TB md_X0_init 63 (.aload_n 0, 0, 0, 0, []) := io_plain (by decide +kernel) rfl
theorem r_X0_init_64 : IOK WB AD SR FW TB md_X0_init 64 (.aload_n 1, 0, 0, 0, []) := io_plain (by decide +kernel) rfl
theorem r_X0_init_65 : IOK WB AD SR FW TB md_X0_init 65 (.getfield 42, 7, 1, 2, []) := io_get (by decide +kernel) fo_RX0_42
theorem r_X0_init_68 : IOK WB AD SR FW TB md_X0_init 68 (.putfield 46, 1, 2, 2, []) := io_put (by decide +kernel) fo_RX0_46 po_RX0_1_1_2_2
theorem r_X0_init_71 : IOK WB AD SR FW TB md_X0_init 71 (.aload_n 0, 0, 0, 0, []) := io_plain (by decide +kernel) rfl
theorem r_X0_init_72 : IOK WB AD SR FW TB md_X0_init 72 (.aload_n 1, 0, 0, 0, []) := io_plain (by decide +kernel) rfl
theorem r_X0_init_73 : IOK WB AD SR FW TB md_X0_init 73 (.putfield 47, 1, 3, 2, []) := io_put (by decide +kernel) fo_RX0_47 po_RX0_1_1_3_2
theorem r_X0_init_76 : IOK WB AD SR FW TB md_X0_init 76 (.return_, 0, 0, 0, []) := io_void (by decide +kernel) rfl
set_option maxRecDepth 100000 in
theorem ok_X0_init_0 : ∀ q ∈ tl_X0_init, IOK WB AD SR FW TB md_X0_init q.1 q.2 := List.forall_mem_cons.mpr ⟨r_X0_init_0, List.forall_mem_cons.mpr ⟨r_X0_init_1, List.forall_mem_cons.mpr ⟨r_X0_init_4, List.forall_mem_cons.mpr ⟨r_X0_init_5, List.forall_mem_cons.mpr ⟨r_X0_init_7, List.forall_mem_cons.mpr ⟨r_X0_init_9, List.forall_mem_cons.mpr ⟨r_X0_init_12, List.forall_mem_cons.mpr ⟨r_X0_init_13, List.forall_mem_cons.mpr ⟨r_X0_init_15, List.forall_mem_cons.mpr ⟨r_X0_init_17, List.forall_mem_cons.mpr ⟨r_X0_init_20, List.forall_mem_cons.mpr ⟨r_X0_init_21, List.forall_mem_cons.mpr ⟨r_X0_init_23, List.forall_mem_cons.mpr ⟨r_X0_init_25, List.forall_mem_cons.mpr ⟨r_X0_init_28, List.forall_mem_cons.mpr ⟨r_X0_init_29, List.forall_mem_cons.mpr ⟨r_X0_init_31, List.forall_mem_cons.mpr ⟨r_X0_init_33, List.forall_mem_cons.mpr ⟨r_X0_init_36, List.forall_mem_cons.mpr ⟨r_X0_init_37, List.forall_mem_cons.mpr ⟨r_X0_init_39, List.forall_mem_cons.mpr ⟨r_X0_init_41, List.forall_mem_cons.mpr ⟨r_X0_init_44, List.forall_mem_cons.mpr ⟨r_X0_init_45, List.forall_mem_cons.mpr ⟨r_X0_init_46, List.forall_mem_cons.mpr ⟨r_X0_init_49, List.forall_mem_cons.mpr ⟨r_X0_init_52, List.forall_mem_cons.mpr ⟨r_X0_init_53, List.forall_mem_cons.mpr ⟨r_X0_init_54, List.forall_mem_cons.mpr ⟨r_X0_init_57, List.forall_mem_cons.mpr ⟨r_X0_init_60, List.forall_mem_cons.mpr ⟨r_X0_init_63, List.forall_mem_cons.mpr ⟨r_X0_init_64, List.forall_mem_cons.mpr ⟨r_X0_init_65, List.forall_mem_cons.mpr ⟨r_X0_init_68, List.forall_mem_cons.mpr ⟨r_X0_init_71, List.forall_mem_cons.mpr ⟨r_X0_init_72, List.forall_mem_cons.mpr ⟨r_X0_init_73, List.forall_mem_cons.mpr ⟨r_X0_init_76, fun _ h => absurd h List.not_mem_nil⟩⟩⟩⟩⟩⟩⟩⟩⟩⟩⟩⟩⟩⟩⟩⟩⟩⟩⟩⟩⟩⟩⟩⟩⟩⟩⟩⟩⟩⟩⟩⟩⟩⟩⟩⟩⟩⟩⟩
set_option maxRecDepth 100000 in
theorem tq_X0_init_0 : tf_X0_init = tl_X0_init.map (fun q => (q.1, stepOf NPf md_X0_init q.2)) := rfl
theorem ro_X0_init : RowsOK (md_X0_init, tl_X0_init) tf_X0_init := ⟨tq_X0_init_0, ok_X0_init_0⟩
theorem r_Jxc12de_init_da8c8_0 : IOK WB AD SR FW TB md_Jxc12de_init_da8c8 0 (.aload_n 0, 0, 0, 0, []) := io_plain (by decide +kernel) rfl
theorem r_Jxc12de_init_da8c8_1 : IOK WB AD SR FW TB md_Jxc12de_init_da8c8 1 (.invokespecial 1, 16, 0, 0, []) := io_spec (by decide +kernel) tb_Jxa1e45_init_da8c8 (wb_7 54 rfl rfl) in_Jxa1e45_init_da8c8 rfl rfl rfl pr_Jxa1e45_init_da8c8 (by decide)
theorem r_Jxc12de_init_da8c8_4 : IOK WB AD SR FW TB md_Jxc12de_init_da8c8 4 (.aload_n 0, 0, 0, 0, []) := io_plain (by decide +kernel) rfl
theorem r_Jxc12de_init_da8c8_5 : IOK WB AD SR FW TB md_Jxc12de_init_da8c8 5 (.iconst 0, 0, 0, 0, []) := io_plain (by decide +kernel) rfl
theorem r_Jxc12de_init_da8c8_6 : IOK WB AD SR FW TB md_Jxc12de_init_da8c8 6 (.putfield 7, 0, 0, 0, []) := io_put (by decide +kernel) fo_RJxc12de_7 po_RJxc12de_1_0_0_0
theorem r_Jxc12de_init_da8c8_9 : IOK WB AD SR FW TB md_Jxc12de_init_da8c8 9 (.return_, 0, 0, 0, []) := io_void (by decide +kernel) rfl
set_option maxRecDepth 100000 in
theorem ok_Jxc12de_init_da8c8_0 : ∀ q ∈ tl_Jxc12de_init_da8c8, IOK WB AD SR FW TB md_Jxc12de_init_da8c8 q.1 q.2 := List.forall_mem_cons.mpr ⟨r_Jxc12de_init_da8c8_0, List.forall_mem_cons.mpr ⟨r_Jxc12de_init_da8c8_1, List.forall_mem_cons.mpr ⟨r_Jxc12de_init_da8c8_4, List.forall_mem_cons.mpr ⟨r_Jxc12de_init_da8c8_5, List.forall_mem_cons.mpr ⟨r_Jxc12de_init_da8c8_6, List.forall_mem_cons.mpr ⟨r_Jxc12de_init_da8c8_9, fun _ h => absurd h List.not_mem_nil⟩⟩⟩⟩⟩⟩
set_option maxRecDepth 100000 in
theorem tq_Jxc12de_init_da8c8_0 : tf_Jxc12de_init_da8c8 = tl_Jxc12de_init_da8c8.map (fun q => (q.1, stepOf NPf md_Jxc12de_init_da8c8 q.2)) := rfl
theorem ro_Jxc12de_init_da8c8 : RowsOK (md_Jxc12de_init_da8c8, tl_Jxc12de_init_da8c8) tf_Jxc12de_init_da8c8 := ⟨tq_Jxc12de_init_da8c8_0, ok_Jxc12de_init_da8c8_0⟩
theorem r_Jx4a65c_init_da8c8_0 : IOK WB AD SR FW TB md_Jx4a65c_init_da8c8 0 (.aload_n 0, 0, 0, 0, []) := io_plain (by decide +kernel) rfl
theorem r_Jx4a65c_init_da8c8_1 : IOK WB AD SR FW TB md_Jx4a65c_init_da8c8 1 (.invokespecial 1, 10, 0, 0, []) := io_spec (by decide +kernel) tb_Jxc12de_init_da8c8 (wb_7 51 rfl rfl) in_Jxc12de_init_da8c8 rfl rfl rfl pr_Jxc12de_init_da8c8 (by decide)
theorem r_Jx4a65c_init_da8c8_4 : IOK WB AD SR FW TB md_Jx4a65c_init_da8c8 4 (.aload_n 0, 0, 0, 0, []) := io_plain (by decide +kernel) rfl
theorem r_Jx4a65c_init_da8c8_5 : IOK WB AD SR FW TB md_Jx4a65c_init_da8c8 5 (.getstatic 39, 0, 0, 0, []) := io_gets (by decide +kernel) (wb_7 58 rfl rfl)
theorem r_Jx4a65c_init_da8c8_8 : IOK WB AD SR FW TB md_Jx4a65c_init_da8c8 8 (.putfield 9, 0, 1, 2, []) := io_put (by decide +kernel) fo_RJx4a65c_9 po_RJx4a65c_1_0_1_2
theorem r_Jx4a65c_init_da8c8_11 : IOK WB AD SR FW TB md_Jx4a65c_init_da8c8 11 (.return_, 0, 0, 0, []) := io_void (by decide +kernel) rfl
set_option maxRecDepth 100000 in
theorem ok_Jx4a65c_init_da8c8_0 : ∀ q ∈ tl_Jx4a65c_init_da8c8, IOK WB AD SR FW TB md_Jx4a65c_init_da8c8 q.1 q.2 := List.forall_mem_cons.mpr ⟨r_Jx4a65c_init_da8c8_0, List.forall_mem_cons.mpr ⟨r_Jx4a65c_init_da8c8_1, List.forall_mem_cons.mpr ⟨r_Jx4a65c_init_da8c8_4, List.forall_mem_cons.mpr ⟨r_Jx4a65c_init_da8c8_5, List.forall_mem_cons.mpr ⟨r_Jx4a65c_init_da8c8_8, List.forall_mem_cons.mpr ⟨r_Jx4a65c_init_da8c8_11, fun _ h => absurd h List.not_mem_nil⟩⟩⟩⟩⟩⟩
set_option maxRecDepth 100000 in
theorem tq_Jx4a65c_init_da8c8_0 : tf_Jx4a65c_init_da8c8 = tl_Jx4a65c_init_da8c8.map (fun q => (q.1, stepOf NPf md_Jx4a65c_init_da8c8 q.2)) := rfl
theorem ro_Jx4a65c_init_da8c8 : RowsOK (md_Jx4a65c_init_da8c8, tl_Jx4a65c_init_da8c8) tf_Jx4a65c_init_da8c8 := ⟨tq_Jx4a65c_init_da8c8_0, ok_Jx4a65c_init_da8c8_0⟩
theorem r_X6_init_0 : IOK WB AD SR FW TB md_X6_init 0 (.aload_n 0, 0, 0, 0, []) := io_plain (by decide +kernel) rfl
theorem r_X6_init_1 : IOK WB AD SR FW TB md_X6_init 1 (.invokespecial 3, 1000, 0, 0, []) := io_obj (by decide +kernel) (wb_2 94 rfl rfl) ob_1 ob_2
theorem r_X6_init_4 : IOK WB AD SR FW TB md_X6_init 4 (.aload_n 0, 0, 0, 0, []) := io_plain (by decide +kernel) rfl
theorem r_X6_init_5 : IOK WB AD SR FW TB md_X6_init 5 (.sipush 1240, 0, 0, 0, []) := io_plain (by decide +kernel) rfl
theorem r_X6_init_8 : IOK WB AD SR FW TB md_X6_init 8 (.newarray .int, 0, 0, 0, []) := io_newa (by decide +kernel) (Or.inl ⟨rfl, rfl⟩) ac_int
theorem r_X6_init_10 : IOK WB AD SR FW TB md_X6_init 10 (.putfield 11, 7, 5, 2, []) := io_put (by decide +kernel) fo_RX6_11 po_RX6_1_7_5_2
theorem r_X6_init_13 : IOK WB AD SR FW TB md_X6_init 13 (.aload_n 0, 0, 0, 0, []) := io_plain (by decide +kernel) rfl
theorem r_X6_init_14 : IOK WB AD SR FW TB md_X6_init 14 (.sipush 1240, 0, 0, 0, []) := io_plain (by decide +kernel) rfl
theorem r_X6_init_17 : IOK WB AD SR FW TB md_X6_init 17 (.newarray .int, 0, 0, 0, []) := io_newa (by decide +kernel) (Or.inl ⟨rfl, rfl⟩) ac_int
theorem r_X6_init_19 : IOK WB AD SR FW TB md_X6_init 19 (.putfield 15, 7, 6, 2, []) := io_put (by decide +kernel) fo_RX6_15 po_RX6_1_7_6_2
theorem r_X6_init_22 : IOK WB AD SR FW TB md_X6_init 22 (.aload_n 0, 0, 0, 0, []) := io_plain (by decide +kernel) rfl
theorem r_X6_init_23 : IOK WB AD SR FW TB md_X6_init 23 (.sipush 1240, 0, 0, 0, []) := io_plain (by decide +kernel) rfl
theorem r_X6_init_26 : IOK WB AD SR FW TB md_X6_init 26 (.newarray .int, 0, 0, 0, []) := io_newa (by decide +kernel) (Or.inl ⟨rfl, rfl⟩) ac_int
theorem r_X6_init_28 : IOK WB AD SR FW TB md_X6_init 28 (.putfield 18, 7, 7, 2, []) := io_put (by decide +kernel) fo_RX6_18 po_RX6_1_7_7_2
theorem r_X6_init_31 : IOK WB AD SR FW TB md_X6_init 31 (.aload_n 0, 0, 0, 0, []) := io_plain (by decide +kernel) rfl
theorem r_X6_init_32 : IOK WB AD SR FW TB md_X6_init 32 (.sipush 1240, 0, 0, 0, []) := io_plain (by decide +kernel) rfl
theorem r_X6_init_35 : IOK WB AD SR FW TB md_X6_init 35 (.newarray .int, 0, 0, 0, []) := io_newa (by decide +kernel) (Or.inl ⟨rfl, rfl⟩) ac_int
theorem r_X6_init_37 : IOK WB AD SR FW TB md_X6_init 37 (.putfield 21, 7, 8, 2, []) := io_put (by decide +kernel) fo_RX6_21 po_RX6_1_7_8_2
theorem r_X6_init_40 : IOK WB AD SR FW TB md_X6_init 40 (.aload_n 0, 0, 0, 0, []) := io_plain (by decide +kernel) rfl
theorem r_X6_init_41 : IOK WB AD SR FW TB md_X6_init 41 (.sipush 1240, 0, 0, 0, []) := io_plain (by decide +kernel) rfl
theorem r_X6_init_44 : IOK WB AD SR FW TB md_X6_init 44 (.newarray .int, 0, 0, 0, []) := io_newa (by decide +kernel) (Or.inl ⟨rfl, rfl⟩) ac_int
theorem r_X6_init_46 : IOK WB AD SR FW TB md_X6_init 46 (.putfield 24, 7, 9, 2, []) := io_put (by decide +kernel) fo_RX6_24 po_RX6_1_7_9_2
theorem r_X6_init_49 : IOK WB AD SR FW TB md_X6_init 49 (.aload_n 0, 0, 0, 0, []) := io_plain (by decide +kernel) rfl
theorem r_X6_init_50 : IOK WB AD SR FW TB md_X6_init 50 (.aload_n 1, 0, 0, 0, []) := io_plain (by decide +kernel) rfl
theorem r_X6_init_51 : IOK WB AD SR FW TB md_X6_init 51 (.getfield 27, 3, 0, 2, []) := io_get (by decide +kernel) fo_RX6_27
theorem r_X6_init_54 : IOK WB AD SR FW TB md_X6_init 54 (.putfield 33, 7, 0, 2, []) := io_put (by decide +kernel) fo_RX6_33 po_RX6_1_7_0_2
theorem r_X6_init_57 : IOK WB AD SR FW TB md_X6_init 57 (.aload_n 0, 0, 0, 0, []) := io_plain (by decide +kernel) rfl
theorem r_X6_init_58 : IOK WB AD SR FW TB md_X6_init 58 (.aload_n 1, 0, 0, 0, []) := io_plain (by decide +kernel) rfl
theorem r_X6_init_59 : IOK WB AD SR FW TB md_X6_init 59 (.putfield 34, 7, 1, 2, []) := io_put (by decide +kernel) fo_RX6_34 po_RX6_1_7_1_2
theorem r_X6_init_62 : IOK WB AD SR FW TB md_X6_init 62 (.aload_n 0, 0, 0, 0, []) := io_plain (by decide +kernel) rfl
theorem r_X6_init_63 : IOK WB AD SR FW TB md_X6_init 63 (.aload_n 2, 0, 0, 0, []) := io_plain (by decide +kernel) rfl
theorem r_X6_init_64 : IOK WB AD SR FW TB md_X6_init 64 (.putfield 38, 7, 2, 2, []) := io_put (by decide +kernel) fo_RX6_38 po_RX6_1_7_2_2
theorem r_X6_init_67 : IOK WB AD SR FW TB md_X6_init 67 (.return_, 0, 0, 0, []) := io_void (by decide +kernel) rfl
set_option maxRecDepth 100000 in
theorem ok_X6_init_0 : ∀ q ∈ tl_X6_init, IOK WB AD SR FW TB md_X6_init q.1 q.2 := List.forall_mem_cons.mpr ⟨r_X6_init_0, List.forall_mem_cons.mpr ⟨r_X6_init_1, List.forall_mem_cons.mpr ⟨r_X6_init_4, List.forall_mem_cons.mpr ⟨r_X6_init_5, List.forall_mem_cons.mpr ⟨r_X6_init_8, List.forall_mem_cons.mpr ⟨r_X6_init_10, List.forall_mem_cons.mpr ⟨r_X6_init_13, List.forall_mem_cons.mpr ⟨r_X6_init_14, List.forall_mem_cons.mpr ⟨r_X6_init_17, List.forall_mem_cons.mpr ⟨r_X6_init_19, List.forall_mem_cons.mpr ⟨r_X6_init_22, List.forall_mem_cons.mpr ⟨r_X6_init_23, List.forall_mem_cons.mpr ⟨r_X6_init_26, List.forall_mem_cons.mpr ⟨r_X6_init_28, List.forall_mem_cons.mpr ⟨r_X6_init_31, List.forall_mem_cons.mpr ⟨r_X6_init_32, List.forall_mem_cons.mpr ⟨r_X6_init_35, List.forall_mem_cons.mpr ⟨r_X6_init_37, List.forall_mem_cons.mpr ⟨r_X6_init_40, List.forall_mem_cons.mpr ⟨r_X6_init_41, List.forall_mem_cons.mpr ⟨r_X6_init_44, List.forall_mem_cons.mpr ⟨r_X6_init_46, List.forall_mem_cons.mpr ⟨r_X6_init_49, List.forall_mem_cons.mpr ⟨r_X6_init_50, List.forall_mem_cons.mpr ⟨r_X6_init_51, List.forall_mem_cons.mpr ⟨r_X6_init_54, List.forall_mem_cons.mpr ⟨r_X6_init_57, List.forall_mem_cons.mpr ⟨r_X6_init_58, List.forall_mem_cons.mpr ⟨r_X6_init_59, List.forall_mem_cons.mpr ⟨r_X6_init_62, List.forall_mem_cons.mpr ⟨r_X6_init_63, List.forall_mem_cons.mpr ⟨r_X6_init_64, List.forall_mem_cons.mpr ⟨r_X6_init_67, fun _ h => absurd h List.not_mem_nil⟩⟩⟩⟩⟩⟩⟩⟩⟩⟩⟩⟩⟩⟩⟩⟩⟩⟩⟩⟩⟩⟩⟩⟩⟩⟩⟩⟩⟩⟩⟩⟩⟩
set_option maxRecDepth 100000 in
theorem tq_X6_init_0 : tf_X6_init = tl_X6_init.map (fun q => (q.1, stepOf NPf md_X6_init q.2)) := rfl
theorem ro_X6_init : RowsOK (md_X6_init, tl_X6_init) tf_X6_init := ⟨tq_X6_init_0, ok_X6_init_0⟩
theorem r_X1_init_0 : IOK WB AD SR FW TB md_X1_init 0 (.aload_n 0, 0, 0, 0, []) := io_plain (by decide +kernel) rfl
theorem r_X1_init_1 : IOK WB AD SR FW TB md_X1_init 1 (.invokespecial 3, 1000, 0, 0, []) := io_obj (by decide +kernel) (wb_2 200 rfl rfl) ob_1 ob_2
theorem r_X1_init_4 : IOK WB AD SR FW TB md_X1_init 4 (.aload_n 0, 0, 0, 0, []) := io_plain (by decide +kernel) rfl
theorem r_X1_init_5 : IOK WB AD SR FW TB md_X1_init 5 (.bipush 24, 0, 0, 0, []) := io_plain (by decide +kernel) rfl
theorem r_X1_init_7 : IOK WB AD SR FW TB md_X1_init 7 (.newarray .int, 0, 0, 0, []) := io_newa (by decide +kernel) (Or.inl ⟨rfl, rfl⟩) ac_int
theorem r_X1_init_9 : IOK WB AD SR FW TB md_X1_init 9 (.putfield 9, 2, 4, 2, []) := io_put (by decide +kernel) fo_RX1_9 po_RX1_1_2_4_2
theorem r_X1_init_12 : IOK WB AD SR FW TB md_X1_init 12 (.aload_n 0, 0, 0, 0, []) := io_plain (by decide +kernel) rfl
theorem r_X1_init_13 : IOK WB AD SR FW TB md_X1_init 13 (.bipush 24, 0, 0, 0, []) := io_plain (by decide +kernel) rfl
theorem r_X1_init_15 : IOK WB AD SR FW TB md_X1_init 15 (.newarray .int, 0, 0, 0, []) := io_newa (by decide +kernel) (Or.inl ⟨rfl, rfl⟩) ac_int
theorem r_X1_init_17 : IOK WB AD SR FW TB md_X1_init 17 (.putfield 15, 2, 5, 2, []) := io_put (by decide +kernel) fo_RX1_15 po_RX1_1_2_5_2
theorem r_X1_init_20 : IOK WB AD SR FW TB md_X1_init 20 (.aload_n 0, 0, 0, 0, []) := io_plain (by decide +kernel) rfl
theorem r_X1_init_21 : IOK WB AD SR FW TB md_X1_init 21 (.bipush 24, 0, 0, 0, []) := io_plain (by decide +kernel) rfl
theorem r_X1_init_23 : IOK WB AD SR FW TB md_X1_init 23 (.newarray .int, 0, 0, 0, []) := io_newa (by decide +kernel) (Or.inl ⟨rfl, rfl⟩) ac_int
theorem r_X1_init_25 : IOK WB AD SR FW TB md_X1_init 25 (.putfield 18, 2, 6, 2, []) := io_put (by decide +kernel) fo_RX1_18 po_RX1_1_2_6_2
theorem r_X1_init_28 : IOK WB AD SR FW TB md_X1_init 28 (.aload_n 0, 0, 0, 0, []) := io_plain (by decide +kernel) rfl
theorem r_X1_init_29 : IOK WB AD SR FW TB md_X1_init 29 (.aload_n 1, 0, 0, 0, []) := io_plain (by decide +kernel) rfl
theorem r_X1_init_30 : IOK WB AD SR FW TB md_X1_init 30 (.getfield 21, 10, 0, 2, []) := io_get (by decide +kernel) fo_RX1_21
theorem r_X1_init_33 : IOK WB AD SR FW TB md_X1_init 33 (.putfield 27, 2, 0, 2, []) := io_put (by decide +kernel) fo_RX1_27 po_RX1_1_2_0_2
theorem r_X1_init_36 : IOK WB AD SR FW TB md_X1_init 36 (.aload_n 0, 0, 0, 0, []) := io_plain (by decide +kernel) rfl
theorem r_X1_init_37 : IOK WB AD SR FW TB md_X1_init 37 (.aload_n 1, 0, 0, 0, []) := io_plain (by decide +kernel) rfl
theorem r_X1_init_38 : IOK WB AD SR FW TB md_X1_init 38 (.putfield 28, 2, 1, 2, []) := io_put (by decide +kernel) fo_RX1_28 po_RX1_1_2_1_2
theorem r_X1_init_41 : IOK WB AD SR FW TB md_X1_init 41 (.return_, 0, 0, 0, []) := io_void (by decide +kernel) rfl
set_option maxRecDepth 100000 in
theorem ok_X1_init_0 : ∀ q ∈ tl_X1_init, IOK WB AD SR FW TB md_X1_init q.1 q.2 := List.forall_mem_cons.mpr ⟨r_X1_init_0, List.forall_mem_cons.mpr ⟨r_X1_init_1, List.forall_mem_cons.mpr ⟨r_X1_init_4, List.forall_mem_cons.mpr ⟨r_X1_init_5, List.forall_mem_cons.mpr ⟨r_X1_init_7, List.forall_mem_cons.mpr ⟨r_X1_init_9, List.forall_mem_cons.mpr ⟨r_X1_init_12, List.forall_mem_cons.mpr ⟨r_X1_init_13, List.forall_mem_cons.mpr ⟨r_X1_init_15, List.forall_mem_cons.mpr ⟨r_X1_init_17, List.forall_mem_cons.mpr ⟨r_X1_init_20, List.forall_mem_cons.mpr ⟨r_X1_init_21, List.forall_mem_cons.mpr ⟨r_X1_init_23, List.forall_mem_cons.mpr ⟨r_X1_init_25, List.forall_mem_cons.mpr ⟨r_X1_init_28, List.forall_mem_cons.mpr ⟨r_X1_init_29, List.forall_mem_cons.mpr ⟨r_X1_init_30, List.forall_mem_cons.mpr ⟨r_X1_init_33, List.forall_mem_cons.mpr ⟨r_X1_init_36, List.forall_mem_cons.mpr ⟨r_X1_init_37, List.forall_mem_cons.mpr ⟨r_X1_init_38, List.forall_mem_cons.mpr ⟨r_X1_init_41, fun _ h => absurd h List.not_mem_nil⟩⟩⟩⟩⟩⟩⟩⟩⟩⟩⟩⟩⟩⟩⟩⟩⟩⟩⟩⟩⟩⟩
set_option maxRecDepth 100000 in
theorem tq_X1_init_0 : tf_X1_init = tl_X1_init.map (fun q => (q.1, stepOf NPf md_X1_init q.2)) := rfl
theorem ro_X1_init : RowsOK (md_X1_init, tl_X1_init) tf_X1_init := ⟨tq_X1_init_0, ok_X1_init_0⟩
theorem r_X5_init_0 : IOK WB AD SR FW TB md_X5_init 0 (.aload_n 0, 0, 0, 0, []) := io_plain (by decide +kernel) rfl
theorem r_X5_init_1 : IOK WB AD SR FW TB md_X5_init 1 (.invokespecial 3, 1000, 0, 0, []) := io_obj (by decide +kernel) (wb_2 238 rfl rfl) ob_1 ob_2
theorem r_X5_init_4 : IOK WB AD SR FW TB md_X5_init 4 (.aload_n 0, 0, 0, 0, []) := io_plain (by decide +kernel) rfl
theorem r_X5_init_5 : IOK WB AD SR FW TB md_X5_init 5 (.sipush 240, 0, 0, 0, []) := io_plain (by decide +kernel) rfl
theorem r_X5_init_8 : IOK WB AD SR FW TB md_X5_init 8 (.newarray .int, 0, 0, 0, []) := io_newa (by decide +kernel) (Or.inl ⟨rfl, rfl⟩) ac_int
theorem r_X5_init_10 : IOK WB AD SR FW TB md_X5_init 10 (.putfield 11, 6, 4, 2, []) := io_put (by decide +kernel) fo_RX5_11 po_RX5_1_6_4_2
theorem r_X5_init_13 : IOK WB AD SR FW TB md_X5_init 13 (.aload_n 0, 0, 0, 0, []) := io_plain (by decide +kernel) rfl
theorem r_X5_init_14 : IOK WB AD SR FW TB md_X5_init 14 (.sipush 240, 0, 0, 0, []) := io_plain (by decide +kernel) rfl
theorem r_X5_init_17 : IOK WB AD SR FW TB md_X5_init 17 (.newarray .int, 0, 0, 0, []) := io_newa (by decide +kernel) (Or.inl ⟨rfl, rfl⟩) ac_int
theorem r_X5_init_19 : IOK WB AD SR FW TB md_X5_init 19 (.putfield 15, 6, 5, 2, []) := io_put (by decide +kernel) fo_RX5_15 po_RX5_1_6_5_2
theorem r_X5_init_22 : IOK WB AD SR FW TB md_X5_init 22 (.aload_n 0, 0, 0, 0, []) := io_plain (by decide +kernel) rfl
theorem r_X5_init_23 : IOK WB AD SR FW TB md_X5_init 23 (.sipush 240, 0, 0, 0, []) := io_plain (by decide +kernel) rfl
theorem r_X5_init_26 : IOK WB AD SR FW TB md_X5_init 26 (.newarray .int, 0, 0, 0, []) := io_newa (by decide +kernel) (Or.inl ⟨rfl, rfl⟩) ac_int
theorem r_X5_init_28 : IOK WB AD SR FW TB md_X5_init 28 (.putfield 18, 6, 6, 2, []) := io_put (by decide +kernel) fo_RX5_18 po_RX5_1_6_6_2
theorem r_X5_init_31 : IOK WB AD SR FW TB md_X5_init 31 (.aload_n 0, 0, 0, 0, []) := io_plain (by decide +kernel) rfl
theorem r_X5_init_32 : IOK WB AD SR FW TB md_X5_init 32 (.aload_n 1, 0, 0, 0, []) := io_plain (by decide +kernel) rfl
theorem r_X5_init_33 : IOK WB AD SR FW TB md_X5_init 33 (.getfield 21, 10, 0, 2, []) := io_get (by decide +kernel) fo_RX5_21
theorem r_X5_init_36 : IOK WB AD SR FW TB md_X5_init 36 (.putfield 27, 6, 0, 2, []) := io_put (by decide +kernel) fo_RX5_27 po_RX5_1_6_0_2
theorem r_X5_init_39 : IOK WB AD SR FW TB md_X5_init 39 (.aload_n 0, 0, 0, 0, []) := io_plain (by decide +kernel) rfl
theorem r_X5_init_40 : IOK WB AD SR FW TB md_X5_init 40 (.aload_n 1, 0, 0, 0, []) := io_plain (by decide +kernel) rfl
theorem r_X5_init_41 : IOK WB AD SR FW TB md_X5_init 41 (.putfield 28, 6, 1, 2, []) := io_put (by decide +kernel) fo_RX5_28 po_RX5_1_6_1_2
theorem r_X5_init_44 : IOK WB AD SR FW TB md_X5_init 44 (.return_, 0, 0, 0, []) := io_void (by decide +kernel) rfl
set_option maxRecDepth 100000 in
theorem ok_X5_init_0 : ∀ q ∈ tl_X5_init, IOK WB AD SR FW TB md_X5_init q.1 q.2 := List.forall_mem_cons.mpr ⟨r_X5_init_0, List.forall_mem_cons.mpr ⟨r_X5_init_1, List.forall_mem_cons.mpr ⟨r_X5_init_4, List.forall_mem_cons.mpr ⟨r_X5_init_5, List.forall_mem_cons.mpr ⟨r_X5_init_8, List.forall_mem_cons.mpr ⟨r_X5_init_10, List.forall_mem_cons.mpr ⟨r_X5_init_13, List.forall_mem_cons.mpr ⟨r_X5_init_14, List.forall_mem_cons.mpr ⟨r_X5_init_17, List.forall_mem_cons.mpr ⟨r_X5_init_19, List.forall_mem_cons.mpr ⟨r_X5_init_22, List.forall_mem_cons.mpr ⟨r_X5_init_23, List.forall_mem_cons.mpr ⟨r_X5_init_26, List.forall_mem_cons.mpr ⟨r_X5_init_28, List.forall_mem_cons.mpr ⟨r_X5_init_31, List.forall_mem_cons.mpr ⟨r_X5_init_32, List.forall_mem_cons.mpr ⟨r_X5_init_33, List.forall_mem_cons.mpr ⟨r_X5_init_36, List.forall_mem_cons.mpr ⟨r_X5_init_39, List.forall_mem_cons.mpr ⟨r_X5_init_40, List.forall_mem_cons.mpr ⟨r_X5_init_41, List.forall_mem_cons.mpr ⟨r_X5_init_44, fun _ h => absurd h List.not_mem_nil⟩⟩⟩⟩⟩⟩⟩⟩⟩⟩⟩⟩⟩⟩⟩⟩⟩⟩⟩⟩⟩⟩
set_option maxRecDepth 100000 in
theorem tq_X5_init_0 : tf_X5_init = tl_X5_init.map (fun q => (q.1, stepOf NPf md_X5_init q.2)) := rfl
theorem ro_X5_init : RowsOK (md_X5_init, tl_X5_init) tf_X5_init := ⟨tq_X5_init_0, ok_X5_init_0⟩
theorem r_X9_init_0 : IOK WB AD SR FW TB md_X9_init 0 (.aload_n 0, 0, 0, 0, []) := io_plain (by decide +kernel) rfl
theorem r_X9_init_1 : IOK WB AD SR FW TB md_X9_init 1 (.invokespecial 3, 1000, 0, 0, []) := io_obj (by decide +kernel) (wb_2 140 rfl rfl) ob_1 ob_2
theorem r_X9_init_4 : IOK WB AD SR FW TB md_X9_init 4 (.aload_n 0, 0, 0, 0, []) := io_plain (by decide +kernel) rfl
theorem r_X9_init_5 : IOK WB AD SR FW TB md_X9_init 5 (.aload_n 1, 0, 0, 0, []) := io_plain (by decide +kernel) rfl
theorem r_X9_init_6 : IOK WB AD SR FW TB md_X9_init 6 (.getfield 9, 7, 0, 2, []) := io_get (by decide +kernel) fo_RX9_9
theorem r_X9_init_9 : IOK WB AD SR FW TB md_X9_init 9 (.putfield 15, 10, 0, 2, []) := io_put (by decide +kernel) fo_RX9_15 po_RX9_1_10_0_2
theorem r_X9_init_12 : IOK WB AD SR FW TB md_X9_init 12 (.aload_n 0, 0, 0, 0, []) := io_plain (by decide +kernel) rfl
theorem r_X9_init_13 : IOK WB AD SR FW TB md_X9_init 13 (.aload_n 1, 0, 0, 0, []) := io_plain (by decide +kernel) rfl
theorem r_X9_init_14 : IOK WB AD SR FW TB md_X9_init 14 (.putfield 18, 10, 1, 2, []) := io_put (by decide +kernel) fo_RX9_18 po_RX9_1_10_1_2
theorem r_X9_init_17 : IOK WB AD SR FW TB md_X9_init 17 (.aload_n 0, 0, 0, 0, []) := io_plain (by decide +kernel) rfl
theorem r_X9_init_18 : IOK WB AD SR FW TB md_X9_init 18 (.aload_n 1, 0, 0, 0, []) := io_plain (by decide +kernel) rfl
theorem r_X9_init_19 : IOK WB AD SR FW TB md_X9_init 19 (.getfield 22, 7, 1, 2, []) := io_get (by decide +kernel) fo_RX9_22
theorem r_X9_init_22 : IOK WB AD SR FW TB md_X9_init 22 (.putfield 26, 10, 2, 2, []) := io_put (by decide +kernel) fo_RX9_26 po_RX9_1_10_2_2
theorem r_X9_init_25 : IOK WB AD SR FW TB md_X9_init 25 (.aload_n 0, 0, 0, 0, []) := io_plain (by decide +kernel) rfl
theorem r_X9_init_26 : IOK WB AD SR FW TB md_X9_init 26 (.aload_n 1, 0, 0, 0, []) := io_plain (by decide +kernel) rfl
theorem r_X9_init_27 : IOK WB AD SR FW TB md_X9_init 27 (.getfield 27, 7, 2, 2, []) := io_get (by decide +kernel) fo_RX9_27
theorem r_X9_init_30 : IOK WB AD SR FW TB md_X9_init 30 (.putfield 31, 10, 3, 2, []) := io_put (by decide +kernel) fo_RX9_31 po_RX9_1_10_3_2
theorem r_X9_init_33 : IOK WB AD SR FW TB md_X9_init 33 (.return_, 0, 0, 0, []) := io_void (by decide +kernel) rfl
set_option maxRecDepth 100000 in
theorem ok_X9_init_0 : ∀ q ∈ tl_X9_init, IOK WB AD SR FW TB md_X9_init q.1 q.2 := List.forall_mem_cons.mpr ⟨r_X9_init_0, List.forall_mem_cons.mpr ⟨r_X9_init_1, List.forall_mem_cons.mpr ⟨r_X9_init_4, List.forall_mem_cons.mpr ⟨r_X9_init_5, List.forall_mem_cons.mpr ⟨r_X9_init_6, List.forall_mem_cons.mpr ⟨r_X9_init_9, List.forall_mem_cons.mpr ⟨r_X9_init_12, List.forall_mem_cons.mpr ⟨r_X9_init_13, List.forall_mem_cons.mpr ⟨r_X9_init_14, List.forall_mem_cons.mpr ⟨r_X9_init_17, List.forall_mem_cons.mpr ⟨r_X9_init_18, List.forall_mem_cons.mpr ⟨r_X9_init_19, List.forall_mem_cons.mpr ⟨r_X9_init_22, List.forall_mem_cons.mpr ⟨r_X9_init_25, List.forall_mem_cons.mpr ⟨r_X9_init_26, List.forall_mem_cons.mpr ⟨r_X9_init_27, List.forall_mem_cons.mpr ⟨r_X9_init_30, List.forall_mem_cons.mpr ⟨r_X9_init_33, fun _ h => absurd h List.not_mem_nil⟩⟩⟩⟩⟩⟩⟩⟩⟩⟩⟩⟩⟩⟩⟩⟩⟩⟩
set_option maxRecDepth 100000 in
theorem tq_X9_init_0 : tf_X9_init = tl_X9_init.map (fun q => (q.1, stepOf NPf md_X9_init q.2)) := rfl
theorem ro_X9_init : RowsOK (md_X9_init, tl_X9_init) tf_X9_init := ⟨tq_X9_init_0, ok_X9_init_0⟩
theorem r_Jxa1e45_init_da8c8_0 : IOK WB AD SR FW TB md_Jxa1e45_init_da8c8 0 (.aload_n 0, 0, 0, 0, []) := io_plain (by decide +kernel) rfl
theorem r_Jxa1e45_init_da8c8_1 : IOK WB AD SR FW TB md_Jxa1e45_init_da8c8 1 (.invokespecial 1, 1000, 0, 0, []) := io_obj (by decide +kernel) (wb_7 57 rfl rfl) ob_1 ob_2
theorem r_Jxa1e45_init_da8c8_4 : IOK WB AD SR FW TB md_Jxa1e45_init_da8c8 4 (.return_, 0, 0, 0, []) := io_void (by decide +kernel) rfl
set_option maxRecDepth 100000 in
theorem ok_Jxa1e45_init_da8c8_0 : ∀ q ∈ tl_Jxa1e45_init_da8c8, IOK WB AD SR FW TB md_Jxa1e45_init_da8c8 q.1 q.2 := List.forall_mem_cons.mpr ⟨r_Jxa1e45_init_da8c8_0, List.forall_mem_cons.mpr ⟨r_Jxa1e45_init_da8c8_1, List.forall_mem_cons.mpr ⟨r_Jxa1e45_init_da8c8_4, fun _ h => absurd h List.not_mem_nil⟩⟩⟩
set_option maxRecDepth 100000 in
theorem tq_Jxa1e45_init_da8c8_0 : tf_Jxa1e45_init_da8c8 = tl_Jxa1e45_init_da8c8.map (fun q => (q.1, stepOf NPf md_Jxa1e45_init_da8c8 q.2)) := rfl
theorem ro_Jxa1e45_init_da8c8 : RowsOK (md_Jxa1e45_init_da8c8, tl_Jxa1e45_init_da8c8) tf_Jxa1e45_init_da8c8 := ⟨tq_Jxa1e45_init_da8c8_0, ok_Jxa1e45_init_da8c8_0⟩
theorem r_X17_operator_0 : IOK WB AD SR FW TB md_X17_operator 0 (.iload_n 3, 0, 0, 0, []) := io_plain (by decide +kernel) rfl
theorem r_X17_operator_1 : IOK WB AD SR FW TB md_X17_operator 1 (.iconst (-1), 0, 0, 0, []) := io_plain (by decide +kernel) rfl
theorem r_X17_operator_2 : IOK WB AD SR FW TB md_X17_operator 2 (.if_icmp .eq 17, 0, 0, 0, []) := io_plain (by decide +kernel) rfl
theorem r_X17_operator_5 : IOK WB AD SR FW TB md_X17_operator 5 (.iload_n 3, 0, 0, 0, []) := io_plain (by decide +kernel) rfl
theorem r_X17_operator_6 : IOK WB AD SR FW TB md_X17_operator 6 (.iconst 0, 0, 0, 0, []) := io_plain (by decide +kernel) rfl
theorem r_X17_operator_7 : IOK WB AD SR FW TB md_X17_operator 7 (.aload_n 0, 0, 0, 0, []) := io_plain (by decide +kernel) rfl
theorem r_X17_operator_8 : IOK WB AD SR FW TB md_X17_operator 8 (.getfield 493, 18, 4, 0, []) := io_get (by decide +kernel) fo_RX17_493
theorem r_X17_operator_11 : IOK WB AD SR FW TB md_X17_operator 11 (.iconst 1, 0, 0, 0, []) := io_plain (by decide +kernel) rfl
theorem r_X17_operator_12 : IOK WB AD SR FW TB md_X17_operator 12 (.isub, 0, 0, 0, []) := io_plain (by decide +kernel) rfl
theorem r_X17_operator_13 : IOK WB AD SR FW TB md_X17_operator 13 (.invokestatic 370, 19, 18, 0, []) := io_stat (by decide +kernel) tb_X17_isIn (wb_9 104 rfl rfl) st_X17_isIn pr_X17_isIn
theorem r_X17_operator_16 : IOK WB AD SR FW TB md_X17_operator 16 (.ifCond .eq 7, 0, 0, 0, []) := io_plain (by decide +kernel) rfl
theorem r_X17_operator_19 : IOK WB AD SR FW TB md_X17_operator 19 (.iconst 1, 0, 0, 0, []) := io_plain (by decide +kernel) rfl
theorem r_X17_operator_20 : IOK WB AD SR FW TB md_X17_operator 20 (.goto 4, 0, 0, 0, []) := io_plain (by decide +kernel) rfl
theorem r_X17_operator_23 : IOK WB AD SR FW TB md_X17_operator 23 (.iconst 0, 0, 0, 0, []) := io_plain (by decide +kernel) rfl
theorem r_X17_operator_24 : IOK WB AD SR FW TB md_X17_operator 24 (.istore 4, 0, 0, 0, []) := io_plain (by decide +kernel) rfl
theorem r_X17_operator_26 : IOK WB AD SR FW TB md_X17_operator 26 (.iload_n 1, 0, 0, 0, []) := io_plain (by decide +kernel) rfl
theorem r_X17_operator_27 : IOK WB AD SR FW TB md_X17_operator 27 (.iconst 0, 0, 0, 0, []) := io_plain (by decide +kernel) rfl
theorem r_X17_operator_28 : IOK WB AD SR FW TB md_X17_operator 28 (.iconst 3, 0, 0, 0, []) := io_plain (by decide +kernel) rfl
theorem r_X17_operator_29 : IOK WB AD SR FW TB md_X17_operator 29 (.invokestatic 370, 19, 18, 0, []) := io_stat (by decide +kernel) tb_X17_isIn (wb_9 104 rfl rfl) st_X17_isIn pr_X17_isIn
theorem r_X17_operator_32 : IOK WB AD SR FW TB md_X17_operator 32 (.ifCond .eq 25, 0, 0, 0, []) := io_plain (by decide +kernel) rfl
theorem r_X17_operator_35 : IOK WB AD SR FW TB md_X17_operator 35 (.iload_n 2, 0, 0, 0, []) := io_plain (by decide +kernel) rfl
theorem r_X17_operator_36 : IOK WB AD SR FW TB md_X17_operator 36 (.iconst 0, 0, 0, 0, []) := io_plain (by decide +kernel) rfl
theorem r_X17_operator_37 : IOK WB AD SR FW TB md_X17_operator 37 (.iconst 3, 0, 0, 0, []) := io_plain (by decide +kernel) rfl
theorem r_X17_operator_38 : IOK WB AD SR FW TB md_X17_operator 38 (.invokestatic 370, 19, 18, 0, []) := io_stat (by decide +kernel) tb_X17_isIn (wb_9 104 rfl rfl) st_X17_isIn pr_X17_isIn
theorem r_X17_operator_41 : IOK WB AD SR FW TB md_X17_operator 41 (.ifCond .eq 16, 0, 0, 0, []) := io_plain (by decide +kernel) rfl
theorem r_X17_operator_44 : IOK WB AD SR FW TB md_X17_operator 44 (.iload_n 2, 0, 0, 0, []) := io_plain (by decide +kernel) rfl
theorem r_X17_operator_45 : IOK WB AD SR FW TB md_X17_operator 45 (.ifCond .eq 8, 0, 0, 0, []) := io_plain (by decide +kernel) rfl
theorem r_X17_operator_48 : IOK WB AD SR FW TB md_X17_operator 48 (.iload_n 1, 0, 0, 0, []) := io_plain (by decide +kernel) rfl
theorem r_X17_operator_49 : IOK WB AD SR FW TB md_X17_operator 49 (.iconst 2, 0, 0, 0, []) := io_plain (by decide +kernel) rfl
theorem r_X17_operator_50 : IOK WB AD SR FW TB md_X17_operator 50 (.if_icmp .ne 7, 0, 0, 0, []) := io_plain (by decide +kernel) rfl
theorem r_X17_operator_53 : IOK WB AD SR FW TB md_X17_operator 53 (.iconst 1, 0, 0, 0, []) := io_plain (by decide +kernel) rfl
theorem r_X17_operator_54 : IOK WB AD SR FW TB md_X17_operator 54 (.goto 4, 0, 0, 0, []) := io_plain (by decide +kernel) rfl
theorem r_X17_operator_57 : IOK WB AD SR FW TB md_X17_operator 57 (.iconst 0, 0, 0, 0, []) := io_plain (by decide +kernel) rfl
theorem r_X17_operator_58 : IOK WB AD SR FW TB md_X17_operator 58 (.istore 5, 0, 0, 0, []) := io_plain (by decide +kernel) rfl
theorem r_X17_operator_60 : IOK WB AD SR FW TB md_X17_operator 60 (.iload 5, 0, 0, 0, []) := io_plain (by decide +kernel) rfl
theorem r_X17_operator_62 : IOK WB AD SR FW TB md_X17_operator 62 (.ifCond .eq 31, 0, 0, 0, []) := io_plain (by decide +kernel) rfl
theorem r_X17_operator_65 : IOK WB AD SR FW TB md_X17_operator 65 (.iload_n 3, 0, 0, 0, []) := io_plain (by decide +kernel) rfl
theorem r_X17_operator_66 : IOK WB AD SR FW TB md_X17_operator 66 (.iconst (-1), 0, 0, 0, []) := io_plain (by decide +kernel) rfl
theorem r_X17_operator_67 : IOK WB AD SR FW TB md_X17_operator 67 (.if_icmp .eq 22, 0, 0, 0, []) := io_plain (by decide +kernel) rfl
theorem r_X17_operator_70 : IOK WB AD SR FW TB md_X17_operator 70 (.iload_n 2, 0, 0, 0, []) := io_plain (by decide +kernel) rfl
set_option maxRecDepth 100000 in
theorem ok_X17_operator_0 : ∀ q ∈ tl_X17_operator_0, IOK WB AD SR FW TB md_X17_operator q.1 q.2 := List.forall_mem_cons.mpr ⟨r_X17_operator_0, List.forall_mem_cons.mpr ⟨r_X17_operator_1, List.forall_mem_cons.mpr ⟨r_X17_operator_2, List.forall_mem_cons.mpr ⟨r_X17_operator_5, List.forall_mem_cons.mpr ⟨r_X17_operator_6, List.forall_mem_cons.mpr ⟨r_X17_operator_7, List.forall_mem_cons.mpr ⟨r_X17_operator_8, List.forall_mem_cons.mpr ⟨r_X17_operator_11, List.forall_mem_cons.mpr ⟨r_X17_operator_12, List.forall_mem_cons.mpr ⟨r_X17_operator_13, List.forall_mem_cons.mpr ⟨r_X17_operator_16, List.forall_mem_cons.mpr ⟨r_X17_operator_19, List.forall_mem_cons.mpr ⟨r_X17_operator_20, List.forall_mem_cons.mpr ⟨r_X17_operator_23, List.forall_mem_cons.mpr ⟨r_X17_operator_24, List.forall_mem_cons.mpr ⟨r_X17_operator_26, List.forall_mem_cons.mpr ⟨r_X17_operator_27, List.forall_mem_cons.mpr ⟨r_X17_operator_28, List.forall_mem_cons.mpr ⟨r_X17_operator_29, List.forall_mem_cons.mpr ⟨r_X17_operator_32, List.forall_mem_cons.mpr ⟨r_X17_operator_35, List.forall_mem_cons.mpr ⟨r_X17_operator_36, List.forall_mem_cons.mpr ⟨r_X17_operator_37, List.forall_mem_cons.mpr ⟨r_X17_operator_38, List.forall_mem_cons.mpr ⟨r_X17_operator_41, List.forall_mem_cons.mpr ⟨r_X17_operator_44, List.forall_mem_cons.mpr ⟨r_X17_operator_45, List.forall_mem_cons.mpr ⟨r_X17_operator_48, List.forall_mem_cons.mpr ⟨r_X17_operator_49, List.forall_mem_cons.mpr ⟨r_X17_operator_50, List.forall_mem_cons.mpr ⟨r_X17_operator_53, List.forall_mem_cons.mpr ⟨r_X17_operator_54, List.forall_mem_cons.mpr ⟨r_X17_operator_57, List.forall_mem_cons.mpr ⟨r_X17_operator_58, List.forall_mem_cons.mpr ⟨r_X17_operator_60, List.forall_mem_cons.mpr ⟨r_X17_operator_62, List.forall_mem_cons.mpr ⟨r_X17_operator_65, List.forall_mem_cons.mpr ⟨r_X17_operator_66, List.forall_mem_cons.mpr ⟨r_X17_operator_67, List.forall_mem_cons.mpr ⟨r_X17_operator_70, fun _ h => absurd h List.not_mem_nil⟩⟩⟩⟩⟩⟩⟩⟩⟩⟩⟩⟩⟩⟩⟩⟩⟩⟩⟩⟩⟩⟩⟩⟩⟩⟩⟩⟩⟩⟩⟩⟩⟩⟩⟩⟩⟩⟩⟩⟩
set_option maxRecDepth 100000 in
theorem tq_X17_operator_0 : tf_X17_operator_0 = tl_X17_operator_0.map (fun q => (q.1, stepOf NPf md_X17_operator q.2)) := rfl
theorem r_X17_operator_71 : IOK WB AD SR FW TB md_X17_operator 71 (.iconst 2, 0, 0, 0, []) := io_plain (by decide +kernel) rfl
theorem r_X17_operator_72 : IOK WB AD SR FW TB md_X17_operator 72 (.if_icmp .lt 21, 0, 0, 0, []) := io_plain (by decide +kernel) rfl
theorem r_X17_operator_75 : IOK WB AD SR FW TB md_X17_operator 75 (.iload 4, 0, 0, 0, []) := io_plain (by decide +kernel) rfl
theorem r_X17_operator_77 : IOK WB AD SR FW TB md_X17_operator 77 (.ifCond .eq 16, 0, 0, 0, []) := io_plain (by decide +kernel) rfl
theorem r_X17_operator_89 : IOK WB AD SR FW TB md_X17_operator 89 (.iconst 1, 0, 0, 0, []) := io_plain (by decide +kernel) rfl
theorem r_X17_operator_90 : IOK WB AD SR FW TB md_X17_operator 90 (.goto 4, 0, 0, 0, []) := io_plain (by decide +kernel) rfl
theorem r_X17_operator_93 : IOK WB AD SR FW TB md_X17_operator 93 (.iconst 0, 0, 0, 0, []) := io_plain (by decide +kernel) rfl
theorem r_X17_operator_94 : IOK WB AD SR FW TB md_X17_operator 94 (.istore 5, 0, 0, 0, []) := io_plain (by decide +kernel) rfl
theorem r_X17_operator_96 : IOK WB AD SR FW TB md_X17_operator 96 (.aload_n 0, 0, 0, 0, []) := io_plain (by decide +kernel) rfl
theorem r_X17_operator_97 : IOK WB AD SR FW TB md_X17_operator 97 (.iload 4, 0, 0, 0, []) := io_plain (by decide +kernel) rfl
theorem r_X17_operator_99 : IOK WB AD SR FW TB md_X17_operator 99 (.ifCond .ne 7, 0, 0, 0, []) := io_plain (by decide +kernel) rfl
theorem r_X17_operator_102 : IOK WB AD SR FW TB md_X17_operator 102 (.iconst 1, 0, 0, 0, []) := io_plain (by decide +kernel) rfl
theorem r_X17_operator_103 : IOK WB AD SR FW TB md_X17_operator 103 (.goto 26, 0, 0, 0, []) := io_plain (by decide +kernel) rfl
theorem r_X17_operator_106 : IOK WB AD SR FW TB md_X17_operator 106 (.iload 5, 0, 0, 0, []) := io_plain (by decide +kernel) rfl
theorem r_X17_operator_108 : IOK WB AD SR FW TB md_X17_operator 108 (.ifCond .ne 7, 0, 0, 0, []) := io_plain (by decide +kernel) rfl
theorem r_X17_operator_111 : IOK WB AD SR FW TB md_X17_operator 111 (.iconst 2, 0, 0, 0, []) := io_plain (by decide +kernel) rfl
theorem r_X17_operator_112 : IOK WB AD SR FW TB md_X17_operator 112 (.goto 17, 0, 0, 0, []) := io_plain (by decide +kernel) rfl
theorem r_X17_operator_115 : IOK WB AD SR FW TB md_X17_operator 115 (.aload_n 0, 0, 0, 0, []) := io_plain (by decide +kernel) rfl
theorem r_X17_operator_116 : IOK WB AD SR FW TB md_X17_operator 116 (.getfield 493, 18, 4, 0, []) := io_get (by decide +kernel) fo_RX17_493
theorem r_X17_operator_119 : IOK WB AD SR FW TB md_X17_operator 119 (.bipush 16, 0, 0, 0, []) := io_plain (by decide +kernel) rfl
theorem r_X17_operator_121 : IOK WB AD SR FW TB md_X17_operator 121 (.if_icmp .ne 7, 0, 0, 0, []) := io_plain (by decide +kernel) rfl
theorem r_X17_operator_128 : IOK WB AD SR FW TB md_X17_operator 128 (.iconst 0, 0, 0, 0, []) := io_plain (by decide +kernel) rfl
theorem r_X17_operator_129 : IOK WB AD SR FW TB md_X17_operator 129 (.putfield 114, 18, 0, 0, []) := io_put (by decide +kernel) fo_RX17_114 po_RX17_0_18_0_0
theorem r_X17_operator_132 : IOK WB AD SR FW TB md_X17_operator 132 (.aload_n 0, 0, 0, 0, []) := io_plain (by decide +kernel) rfl
theorem r_X17_operator_133 : IOK WB AD SR FW TB md_X17_operator 133 (.getfield 114, 18, 0, 0, []) := io_get (by decide +kernel) fo_RX17_114
theorem r_X17_operator_136 : IOK WB AD SR FW TB md_X17_operator 136 (.ifCond .le 5, 0, 0, 0, []) := io_plain (by decide +kernel) rfl
theorem r_X17_operator_139 : IOK WB AD SR FW TB md_X17_operator 139 (.iconst 0, 0, 0, 0, []) := io_plain (by decide +kernel) rfl
theorem r_X17_operator_140 : IOK WB AD SR FW TB md_X17_operator 140 (.ireturn, 0, 0, 0, []) := io_plain (by decide +kernel) rfl
theorem r_X17_operator_141 : IOK WB AD SR FW TB md_X17_operator 141 (.aload_n 0, 0, 0, 0, []) := io_plain (by decide +kernel) rfl
theorem r_X17_operator_142 : IOK WB AD SR FW TB md_X17_operator 142 (.getfield 17, 18, 5, 2, []) := io_get (by decide +kernel) fo_RX17_17
theorem r_X17_operator_145 : IOK WB AD SR FW TB md_X17_operator 145 (.aload_n 0, 0, 0, 0, []) := io_plain (by decide +kernel) rfl
theorem r_X17_operator_146 : IOK WB AD SR FW TB md_X17_operator 146 (.getfield 493, 18, 4, 0, []) := io_get (by decide +kernel) fo_RX17_493
theorem r_X17_operator_149 : IOK WB AD SR FW TB md_X17_operator 149 (.iload_n 1, 0, 0, 0, []) := io_plain (by decide +kernel) rfl
theorem r_X17_operator_150 : IOK WB AD SR FW TB md_X17_operator 150 (.iastore, 0, 0, 0, []) := io_plain (by decide +kernel) rfl
theorem r_X17_operator_151 : IOK WB AD SR FW TB md_X17_operator 151 (.aload_n 0, 0, 0, 0, []) := io_plain (by decide +kernel) rfl
theorem r_X17_operator_152 : IOK WB AD SR FW TB md_X17_operator 152 (.getfield 20, 18, 6, 2, []) := io_get (by decide +kernel) fo_RX17_20
theorem r_X17_operator_155 : IOK WB AD SR FW TB md_X17_operator 155 (.aload_n 0, 0, 0, 0, []) := io_plain (by decide +kernel) rfl
theorem r_X17_operator_156 : IOK WB AD SR FW TB md_X17_operator 156 (.getfield 493, 18, 4, 0, []) := io_get (by decide +kernel) fo_RX17_493
theorem r_X17_operator_159 : IOK WB AD SR FW TB md_X17_operator 159 (.iload_n 2, 0, 0, 0, []) := io_plain (by decide +kernel) rfl
theorem r_X17_operator_160 : IOK WB AD SR FW TB md_X17_operator 160 (.iastore, 0, 0, 0, []) := io_plain (by decide +kernel) rfl
set_option maxRecDepth 100000 in
theorem ok_X17_operator_1 : ∀ q ∈ tl_X17_operator_1, IOK WB AD SR FW TB md_X17_operator q.1 q.2 := List.forall_mem_cons.mpr ⟨r_X17_operator_71, List.forall_mem_cons.mpr ⟨r_X17_operator_72, List.forall_mem_cons.mpr ⟨r_X17_operator_75, List.forall_mem_cons.mpr ⟨r_X17_operator_77, List.forall_mem_cons.mpr ⟨r_X17_operator_89, List.forall_mem_cons.mpr ⟨r_X17_operator_90, List.forall_mem_cons.mpr ⟨r_X17_operator_93, List.forall_mem_cons.mpr ⟨r_X17_operator_94, List.forall_mem_cons.mpr ⟨r_X17_operator_96, List.forall_mem_cons.mpr ⟨r_X17_operator_97, List.forall_mem_cons.mpr ⟨r_X17_operator_99, List.forall_mem_cons.mpr ⟨r_X17_operator_102, List.forall_mem_cons.mpr ⟨r_X17_operator_103, List.forall_mem_cons.mpr ⟨r_X17_operator_106, List.forall_mem_cons.mpr ⟨r_X17_operator_108, List.forall_mem_cons.mpr ⟨r_X17_operator_111, List.forall_mem_cons.mpr ⟨r_X17_operator_112, List.forall_mem_cons.mpr ⟨r_X17_operator_115, List.forall_mem_cons.mpr ⟨r_X17_operator_116, List.forall_mem_cons.mpr ⟨r_X17_operator_119, List.forall_mem_cons.mpr ⟨r_X17_operator_121, List.forall_mem_cons.mpr ⟨r_X17_operator_128, List.forall_mem_cons.mpr ⟨r_X17_operator_129, List.forall_mem_cons.mpr ⟨r_X17_operator_132, List.forall_mem_cons.mpr ⟨r_X17_operator_133, List.forall_mem_cons.mpr ⟨r_X17_operator_136, List.forall_mem_cons.mpr ⟨r_X17_operator_139, List.forall_mem_cons.mpr ⟨r_X17_operator_140, List.forall_mem_cons.mpr ⟨r_X17_operator_141, List.forall_mem_cons.mpr ⟨r_X17_operator_142, List.forall_mem_cons.mpr ⟨r_X17_operator_145, List.forall_mem_cons.mpr ⟨r_X17_operator_146, List.forall_mem_cons.mpr ⟨r_X17_operator_149, List.forall_mem_cons.mpr ⟨r_X17_operator_150, List.forall_mem_cons.mpr ⟨r_X17_operator_151, List.forall_mem_cons.mpr ⟨r_X17_operator_152, List.forall_mem_cons.mpr ⟨r_X17_operator_155, List.forall_mem_cons.mpr ⟨r_X17_operator_156, List.forall_mem_cons.mpr ⟨r_X17_operator_159, List.forall_mem_cons.mpr ⟨r_X17_operator_160, fun _ h => absurd h List.not_mem_nil⟩⟩⟩⟩⟩⟩⟩⟩⟩⟩⟩⟩⟩⟩⟩⟩⟩⟩⟩⟩⟩⟩⟩⟩⟩⟩⟩⟩⟩⟩⟩⟩⟩⟩⟩⟩⟩⟩⟩⟩
set_option maxRecDepth 100000 in
theorem tq_X17_operator_1 : tf_X17_operator_1 = tl_X17_operator_1.map (fun q => (q.1, stepOf NPf md_X17_operator q.2)) := rfl
theorem r_X17_operator_161 : IOK WB AD SR FW TB md_X17_operator 161 (.aload_n 0, 0, 0, 0, []) := io_plain (by decide +kernel) rfl
theorem r_X17_operator_162 : IOK WB AD SR FW TB md_X17_operator 162 (.getfield 23, 18, 7, 2, []) := io_get (by decide +kernel) fo_RX17_23
theorem r_X17_operator_165 : IOK WB AD SR FW TB md_X17_operator 165 (.aload_n 0, 0, 0, 0, []) := io_plain (by decide +kernel) rfl
theorem r_X17_operator_166 : IOK WB AD SR FW TB md_X17_operator 166 (.getfield 493, 18, 4, 0, []) := io_get (by decide +kernel) fo_RX17_493
theorem r_X17_operator_169 : IOK WB AD SR FW TB md_X17_operator 169 (.iload_n 3, 0, 0, 0, []) := io_plain (by decide +kernel) rfl
theorem r_X17_operator_170 : IOK WB AD SR FW TB md_X17_operator 170 (.iastore, 0, 0, 0, []) := io_plain (by decide +kernel) rfl
theorem r_X17_operator_171 : IOK WB AD SR FW TB md_X17_operator 171 (.aload_n 0, 0, 0, 0, []) := io_plain (by decide +kernel) rfl
theorem r_X17_operator_172 : IOK WB AD SR FW TB md_X17_operator 172 (.getfield 81, 18, 31, 2, []) := io_get (by decide +kernel) fo_RX17_81
theorem r_X17_operator_175 : IOK WB AD SR FW TB md_X17_operator 175 (.aload_n 0, 0, 0, 0, []) := io_plain (by decide +kernel) rfl
theorem r_X17_operator_176 : IOK WB AD SR FW TB md_X17_operator 176 (.getfield 493, 18, 4, 0, []) := io_get (by decide +kernel) fo_RX17_493
theorem r_X17_operator_179 : IOK WB AD SR FW TB md_X17_operator 179 (.iload_n 3, 0, 0, 0, []) := io_plain (by decide +kernel) rfl
theorem r_X17_operator_180 : IOK WB AD SR FW TB md_X17_operator 180 (.iconst (-1), 0, 0, 0, []) := io_plain (by decide +kernel) rfl
theorem r_X17_operator_181 : IOK WB AD SR FW TB md_X17_operator 181 (.if_icmp .ne 7, 0, 0, 0, []) := io_plain (by decide +kernel) rfl
theorem r_X17_operator_184 : IOK WB AD SR FW TB md_X17_operator 184 (.aconst_null, 0, 0, 0, []) := io_plain (by decide +kernel) rfl
theorem r_X17_operator_185 : IOK WB AD SR FW TB md_X17_operator 185 (.goto 16, 0, 0, 0, []) := io_plain (by decide +kernel) rfl
theorem r_X17_operator_201 : IOK WB AD SR FW TB md_X17_operator 201 (.aastore, 0, 0, 0, []) := io_plain (by decide +kernel) rfl
theorem r_X17_operator_202 : IOK WB AD SR FW TB md_X17_operator 202 (.aload_n 0, 0, 0, 0, []) := io_plain (by decide +kernel) rfl
theorem r_X17_operator_203 : IOK WB AD SR FW TB md_X17_operator 203 (.getfield 38, 18, 12, 2, []) := io_get (by decide +kernel) fo_RX17_38
theorem r_X17_operator_206 : IOK WB AD SR FW TB md_X17_operator 206 (.aload_n 0, 0, 0, 0, []) := io_plain (by decide +kernel) rfl
theorem r_X17_operator_207 : IOK WB AD SR FW TB md_X17_operator 207 (.getfield 493, 18, 4, 0, []) := io_get (by decide +kernel) fo_RX17_493
theorem r_X17_operator_210 : IOK WB AD SR FW TB md_X17_operator 210 (.aload_n 0, 0, 0, 0, []) := io_plain (by decide +kernel) rfl
theorem r_X17_operator_211 : IOK WB AD SR FW TB md_X17_operator 211 (.getfield 493, 18, 4, 0, []) := io_get (by decide +kernel) fo_RX17_493
theorem r_X17_operator_214 : IOK WB AD SR FW TB md_X17_operator 214 (.iastore, 0, 0, 0, []) := io_plain (by decide +kernel) rfl
theorem r_X17_operator_215 : IOK WB AD SR FW TB md_X17_operator 215 (.iconst 0, 0, 0, 0, []) := io_plain (by decide +kernel) rfl
theorem r_X17_operator_216 : IOK WB AD SR FW TB md_X17_operator 216 (.istore 6, 0, 0, 0, []) := io_plain (by decide +kernel) rfl
theorem r_X17_operator_218 : IOK WB AD SR FW TB md_X17_operator 218 (.iload 6, 0, 0, 0, []) := io_plain (by decide +kernel) rfl
theorem r_X17_operator_220 : IOK WB AD SR FW TB md_X17_operator 220 (.iconst 4, 0, 0, 0, []) := io_plain (by decide +kernel) rfl
theorem r_X17_operator_221 : IOK WB AD SR FW TB md_X17_operator 221 (.if_icmp .ge 24, 0, 0, 0, []) := io_plain (by decide +kernel) rfl
theorem r_X17_operator_224 : IOK WB AD SR FW TB md_X17_operator 224 (.aload_n 0, 0, 0, 0, []) := io_plain (by decide +kernel) rfl
theorem r_X17_operator_225 : IOK WB AD SR FW TB md_X17_operator 225 (.getfield 35, 18, 11, 2, []) := io_get (by decide +kernel) fo_RX17_35
theorem r_X17_operator_228 : IOK WB AD SR FW TB md_X17_operator 228 (.iconst 4, 0, 0, 0, []) := io_plain (by decide +kernel) rfl
theorem r_X17_operator_229 : IOK WB AD SR FW TB md_X17_operator 229 (.aload_n 0, 0, 0, 0, []) := io_plain (by decide +kernel) rfl
theorem r_X17_operator_230 : IOK WB AD SR FW TB md_X17_operator 230 (.getfield 493, 18, 4, 0, []) := io_get (by decide +kernel) fo_RX17_493
theorem r_X17_operator_233 : IOK WB AD SR FW TB md_X17_operator 233 (.imul, 0, 0, 0, []) := io_plain (by decide +kernel) rfl
theorem r_X17_operator_234 : IOK WB AD SR FW TB md_X17_operator 234 (.iload 6, 0, 0, 0, []) := io_plain (by decide +kernel) rfl
theorem r_X17_operator_236 : IOK WB AD SR FW TB md_X17_operator 236 (.iadd, 0, 0, 0, []) := io_plain (by decide +kernel) rfl
theorem r_X17_operator_237 : IOK WB AD SR FW TB md_X17_operator 237 (.iconst 1, 0, 0, 0, []) := io_plain (by decide +kernel) rfl
theorem r_X17_operator_238 : IOK WB AD SR FW TB md_X17_operator 238 (.iastore, 0, 0, 0, []) := io_plain (by decide +kernel) rfl
theorem r_X17_operator_239 : IOK WB AD SR FW TB md_X17_operator 239 (.iinc 6 1, 0, 0, 0, []) := io_plain (by decide +kernel) rfl
theorem r_X17_operator_242 : IOK WB AD SR FW TB md_X17_operator 242 (.goto (-24), 0, 0, 0, []) := io_plain (by decide +kernel) rfl
set_option maxRecDepth 100000 in
theorem ok_X17_operator_2 : ∀ q ∈ tl_X17_operator_2, IOK WB AD SR FW TB md_X17_operator q.1 q.2 := List.forall_mem_cons.mpr ⟨r_X17_operator_161, List.forall_mem_cons.mpr ⟨r_X17_operator_162, List.forall_mem_cons.mpr ⟨r_X17_operator_165, List.forall_mem_cons.mpr ⟨r_X17_operator_166, List.forall_mem_cons.mpr ⟨r_X17_operator_169, List.forall_mem_cons.mpr ⟨r_X17_operator_170, List.forall_mem_cons.mpr ⟨r_X17_operator_171, List.forall_mem_cons.mpr ⟨r_X17_operator_172, List.forall_mem_cons.mpr ⟨r_X17_operator_175, List.forall_mem_cons.mpr ⟨r_X17_operator_176, List.forall_mem_cons.mpr ⟨r_X17_operator_179, List.forall_mem_cons.mpr ⟨r_X17_operator_180, List.forall_mem_cons.mpr ⟨r_X17_operator_181, List.forall_mem_cons.mpr ⟨r_X17_operator_184, List.forall_mem_cons.mpr ⟨r_X17_operator_185, List.forall_mem_cons.mpr ⟨r_X17_operator_201, List.forall_mem_cons.mpr ⟨r_X17_operator_202, List.forall_mem_cons.mpr ⟨r_X17_operator_203, List.forall_mem_cons.mpr ⟨r_X17_operator_206, List.forall_mem_cons.mpr ⟨r_X17_operator_207, List.forall_mem_cons.mpr ⟨r_X17_operator_210, List.forall_mem_cons.mpr ⟨r_X17_operator_211, List.forall_mem_cons.mpr ⟨r_X17_operator_214, List.forall_mem_cons.mpr ⟨r_X17_operator_215, List.forall_mem_cons.mpr ⟨r_X17_operator_216, List.forall_mem_cons.mpr ⟨r_X17_operator_218, List.forall_mem_cons.mpr ⟨r_X17_operator_220, List.forall_mem_cons.mpr ⟨r_X17_operator_221, List.forall_mem_cons.mpr ⟨r_X17_operator_224, List.forall_mem_cons.mpr ⟨r_X17_operator_225, List.forall_mem_cons.mpr ⟨r_X17_operator_228, List.forall_mem_cons.mpr ⟨r_X17_operator_229, List.forall_mem_cons.mpr ⟨r_X17_operator_230, List.forall_mem_cons.mpr ⟨r_X17_operator_233, List.forall_mem_cons.mpr ⟨r_X17_operator_234, List.forall_mem_cons.mpr ⟨r_X17_operator_236, List.forall_mem_cons.mpr ⟨r_X17_operator_237, List.forall_mem_cons.mpr ⟨r_X17_operator_238, List.forall_mem_cons.mpr ⟨r_X17_operator_239, List.forall_mem_cons.mpr ⟨r_X17_operator_242, fun _ h => absurd h List.not_mem_nil⟩⟩⟩⟩⟩⟩⟩⟩⟩⟩⟩⟩⟩⟩⟩⟩⟩⟩⟩⟩⟩⟩⟩⟩⟩⟩⟩⟩⟩⟩⟩⟩⟩⟩⟩⟩⟩⟩⟩⟩
set_option maxRecDepth 100000 in
theorem tq_X17_operator_2 : tf_X17_operator_2 = tl_X17_operator_2.map (fun q => (q.1, stepOf NPf md_X17_operator q.2)) := rfl
theorem r_X17_operator_245 : IOK WB AD SR FW TB md_X17_operator 245 (.aload_n 0, 0, 0, 0, []) := io_plain (by decide +kernel) rfl
theorem r_X17_operator_246 : IOK WB AD SR FW TB md_X17_operator 246 (.dup, 0, 0, 0, []) := io_plain (by decide +kernel) rfl
theorem r_X17_operator_247 : IOK WB AD SR FW TB md_X17_operator 247 (.getfield 493, 18, 4, 0, []) := io_get (by decide +kernel) fo_RX17_493
theorem r_X17_operator_250 : IOK WB AD SR FW TB md_X17_operator 250 (.iconst 1, 0, 0, 0, []) := io_plain (by decide +kernel) rfl
theorem r_X17_operator_251 : IOK WB AD SR FW TB md_X17_operator 251 (.iadd, 0, 0, 0, []) := io_plain (by decide +kernel) rfl
theorem r_X17_operator_252 : IOK WB AD SR FW TB md_X17_operator 252 (.putfield 493, 18, 4, 0, []) := io_put (by decide +kernel) fo_RX17_493 po_RX17_0_18_4_0
theorem r_X17_operator_255 : IOK WB AD SR FW TB md_X17_operator 255 (.aload_n 0, 0, 0, 0, []) := io_plain (by decide +kernel) rfl
theorem r_X17_operator_256 : IOK WB AD SR FW TB md_X17_operator 256 (.getfield 493, 18, 4, 0, []) := io_get (by decide +kernel) fo_RX17_493
theorem r_X17_operator_259 : IOK WB AD SR FW TB md_X17_operator 259 (.iconst 1, 0, 0, 0, []) := io_plain (by decide +kernel) rfl
theorem r_X17_operator_260 : IOK WB AD SR FW TB md_X17_operator 260 (.isub, 0, 0, 0, []) := io_plain (by decide +kernel) rfl
theorem r_X17_operator_261 : IOK WB AD SR FW TB md_X17_operator 261 (.ireturn, 0, 0, 0, []) := io_plain (by decide +kernel) rfl
set_option maxRecDepth 100000 in
theorem ok_X17_operator_3 : ∀ q ∈ tl_X17_operator_3, IOK WB AD SR FW TB md_X17_operator q.1 q.2 := List.forall_mem_cons.mpr ⟨r_X17_operator_245, List.forall_mem_cons.mpr ⟨r_X17_operator_246, List.forall_mem_cons.mpr ⟨r_X17_operator_247, List.forall_mem_cons.mpr ⟨r_X17_operator_250, List.forall_mem_cons.mpr ⟨r_X17_operator_251, List.forall_mem_cons.mpr ⟨r_X17_operator_252, List.forall_mem_cons.mpr ⟨r_X17_operator_255, List.forall_mem_cons.mpr ⟨r_X17_operator_256, List.forall_mem_cons.mpr ⟨r_X17_operator_259, List.forall_mem_cons.mpr ⟨r_X17_operator_260, List.forall_mem_cons.mpr ⟨r_X17_operator_261, fun _ h => absurd h List.not_mem_nil⟩⟩⟩⟩⟩⟩⟩⟩⟩⟩⟩
set_option maxRecDepth 100000 in
theorem tq_X17_operator_3 : tf_X17_operator_3 = tl_X17_operator_3.map (fun q => (q.1, stepOf NPf md_X17_operator q.2)) := rfl
theorem ro_X17_operator : RowsOK (md_X17_operator, tl_X17_operator) tf_X17_operator := rows_app ⟨tq_X17_operator_0, ok_X17_operator_0⟩ (rows_app ⟨tq_X17_operator_1, ok_X17_operator_1⟩ (rows_app ⟨tq_X17_operator_2, ok_X17_operator_2⟩ (⟨tq_X17_operator_3, ok_X17_operator_3⟩)))
theorem r_X2_init_0 : IOK WB AD SR FW TB md_X2_init 0 (.aload_n 0, 0, 0, 0, []) := io_plain (by decide +kernel) rfl
theorem r_X2_init_1 : IOK WB AD SR FW TB md_X2_init 1 (.invokespecial 3, 1000, 0, 0, []) := io_obj (by decide +kernel) (wb_1 179 rfl rfl) ob_1 ob_2
theorem r_X2_init_4 : IOK WB AD SR FW TB md_X2_init 4 (.aload_n 0, 0, 0, 0, []) := io_plain (by decide +kernel) rfl
theorem r_X2_init_5 : IOK WB AD SR FW TB md_X2_init 5 (.bipush 20, 0, 0, 0, []) := io_plain (by decide +kernel) rfl
theorem r_X2_init_7 : IOK WB AD SR FW TB md_X2_init 7 (.newarray .boolean, 1, 0, 0, []) := io_newa (by decide +kernel) (Or.inr (Or.inl ⟨rfl, rfl⟩)) ac_boolean
theorem r_X2_init_9 : IOK WB AD SR FW TB md_X2_init 9 (.putfield 9, 3, 4, 2, []) := io_put (by decide +kernel) fo_RX2_9 po_RX2_1_3_4_2
theorem r_X2_init_12 : IOK WB AD SR FW TB md_X2_init 12 (.aload_n 0, 0, 0, 0, []) := io_plain (by decide +kernel) rfl
theorem r_X2_init_13 : IOK WB AD SR FW TB md_X2_init 13 (.aload_n 1, 0, 0, 0, []) := io_plain (by decide +kernel) rfl
theorem r_X2_init_14 : IOK WB AD SR FW TB md_X2_init 14 (.putfield 15, 3, 0, 2, []) := io_put (by decide +kernel) fo_RX2_15 po_RX2_1_3_0_2
theorem r_X2_init_17 : IOK WB AD SR FW TB md_X2_init 17 (.aload_n 0, 0, 0, 0, []) := io_plain (by decide +kernel) rfl
theorem r_X2_init_18 : IOK WB AD SR FW TB md_X2_init 18 (.aload_n 1, 0, 0, 0, []) := io_plain (by decide +kernel) rfl
theorem r_X2_init_19 : IOK WB AD SR FW TB md_X2_init 19 (.getfield 19, 9, 0, 2, []) := io_get (by decide +kernel) fo_RX2_19
theorem r_X2_init_22 : IOK WB AD SR FW TB md_X2_init 22 (.putfield 25, 3, 1, 2, []) := io_put (by decide +kernel) fo_RX2_25 po_RX2_1_3_1_2
theorem r_X2_init_25 : IOK WB AD SR FW TB md_X2_init 25 (.return_, 0, 0, 0, []) := io_void (by decide +kernel) rfl
set_option maxRecDepth 100000 in
theorem ok_X2_init_0 : ∀ q ∈ tl_X2_init, IOK WB AD SR FW TB md_X2_init q.1 q.2 := List.forall_mem_cons.mpr ⟨r_X2_init_0, List.forall_mem_cons.mpr ⟨r_X2_init_1, List.forall_mem_cons.mpr ⟨r_X2_init_4, List.forall_mem_cons.mpr ⟨r_X2_init_5, List.forall_mem_cons.mpr ⟨r_X2_init_7, List.forall_mem_cons.mpr ⟨r_X2_init_9, List.forall_mem_cons.mpr ⟨r_X2_init_12, List.forall_mem_cons.mpr ⟨r_X2_init_13, List.forall_mem_cons.mpr ⟨r_X2_init_14, List.forall_mem_cons.mpr ⟨r_X2_init_17, List.forall_mem_cons.mpr ⟨r_X2_init_18, List.forall_mem_cons.mpr ⟨r_X2_init_19, List.forall_mem_cons.mpr ⟨r_X2_init_22, List.forall_mem_cons.mpr ⟨r_X2_init_25, fun _ h => absurd h List.not_mem_nil⟩⟩⟩⟩⟩⟩⟩⟩⟩⟩⟩⟩⟩⟩
set_option maxRecDepth 100000 in
theorem tq_X2_init_0 : tf_X2_init = tl_X2_init.map (fun q => (q.1, stepOf NPf md_X2_init q.2)) := rfl
theorem ro_X2_init : RowsOK (md_X2_init, tl_X2_init) tf_X2_init := ⟨tq_X2_init_0, ok_X2_init_0⟩
theorem r_X17_isIn_0 : IOK WB AD SR FW TB md_X17_isIn 0 (.iload_n 0, 0, 0, 0, []) := io_plain (by decide +kernel) rfl
theorem r_X17_isIn_1 : IOK WB AD SR FW TB md_X17_isIn 1 (.iload_n 1, 0, 0, 0, []) := io_plain (by decide +kernel) rfl
theorem r_X17_isIn_2 : IOK WB AD SR FW TB md_X17_isIn 2 (.if_icmp .lt 12, 0, 0, 0, []) := io_plain (by decide +kernel) rfl
theorem r_X17_isIn_5 : IOK WB AD SR FW TB md_X17_isIn 5 (.iload_n 0, 0, 0, 0, []) := io_plain (by decide +kernel) rfl
theorem r_X17_isIn_6 : IOK WB AD SR FW TB md_X17_isIn 6 (.iload_n 2, 0, 0, 0, []) := io_plain (by decide +kernel) rfl
theorem r_X17_isIn_7 : IOK WB AD SR FW TB md_X17_isIn 7 (.if_icmp .gt 7, 0, 0, 0, []) := io_plain (by decide +kernel) rfl
theorem r_X17_isIn_10 : IOK WB AD SR FW TB md_X17_isIn 10 (.iconst 1, 0, 0, 0, []) := io_plain (by decide +kernel) rfl
theorem r_X17_isIn_11 : IOK WB AD SR FW TB md_X17_isIn 11 (.goto 4, 0, 0, 0, []) := io_plain (by decide +kernel) rfl
theorem r_X17_isIn_14 : IOK WB AD SR FW TB md_X17_isIn 14 (.iconst 0, 0, 0, 0, []) := io_plain (by decide +kernel) rfl
theorem r_X17_isIn_15 : IOK WB AD SR FW TB md_X17_isIn 15 (.ireturn, 0, 0, 0, []) := io_plain (by decide +kernel) rfl
set_option maxRecDepth 100000 in
theorem ok_X17_isIn_0 : ∀ q ∈ tl_X17_isIn, IOK WB AD SR FW TB md_X17_isIn q.1 q.2 := List.forall_mem_cons.mpr ⟨r_X17_isIn_0, List.forall_mem_cons.mpr ⟨r_X17_isIn_1, List.forall_mem_cons.mpr ⟨r_X17_isIn_2, List.forall_mem_cons.mpr ⟨r_X17_isIn_5, List.forall_mem_cons.mpr ⟨r_X17_isIn_6, List.forall_mem_cons.mpr ⟨r_X17_isIn_7, List.forall_mem_cons.mpr ⟨r_X17_isIn_10, List.forall_mem_cons.mpr ⟨r_X17_isIn_11, List.forall_mem_cons.mpr ⟨r_X17_isIn_14, List.forall_mem_cons.mpr ⟨r_X17_isIn_15, fun _ h => absurd h List.not_mem_nil⟩⟩⟩⟩⟩⟩⟩⟩⟩⟩
set_option maxRecDepth 100000 in
theorem tq_X17_isIn_0 : tf_X17_isIn = tl_X17_isIn.map (fun q => (q.1, stepOf NPf md_X17_isIn q.2)) := rfl
theorem ro_X17_isIn : RowsOK (md_X17_isIn, tl_X17_isIn) tf_X17_isIn := ⟨tq_X17_isIn_0, ok_X17_isIn_0⟩
theorem r_X10_operator_0 : IOK WB AD SR FW TB md_X10_operator 0 (.iload_n 3, 0, 0, 0, []) := io_plain (by decide +kernel) rfl
theorem r_X10_operator_1 : IOK WB AD SR FW TB md_X10_operator 1 (.iconst (-1), 0, 0, 0, []) := io_plain (by decide +kernel) rfl
theorem r_X10_operator_2 : IOK WB AD SR FW TB md_X10_operator 2 (.if_icmp .eq 24, 0, 0, 0, []) := io_plain (by decide +kernel) rfl
theorem r_X10_operator_5 : IOK WB AD SR FW TB md_X10_operator 5 (.aload_n 0, 0, 0, 0, []) := io_plain (by decide +kernel) rfl
theorem r_X10_operator_6 : IOK WB AD SR FW TB md_X10_operator 6 (.getfield 12, 11, 0, 2, []) := io_get (by decide +kernel) fo_RX10_12
theorem r_X10_operator_9 : IOK WB AD SR FW TB md_X10_operator 9 (.iload_n 3, 0, 0, 0, []) := io_plain (by decide +kernel) rfl
theorem r_X10_operator_10 : IOK WB AD SR FW TB md_X10_operator 10 (.invokevirtual 126, 24, 8, 0, []) := io_virt (by decide +kernel) tb_X7_hasOperator (wb_5 91 rfl rfl) in_X7_hasOperator se_X7_hasOperator ⟨_, rfl, rfl⟩ pr_X7_hasOperator (by decide)
theorem r_X10_operator_13 : IOK WB AD SR FW TB md_X10_operator 13 (.ifCond .ne 13, 0, 0, 0, []) := io_plain (by decide +kernel) rfl
set_option maxRecDepth 100000 in
theorem r_X10_operator_16 : IOK WB AD SR FW TB md_X10_operator 16 (.new 93, 101, 129, 97, []) := io_thx 1 rfl (thk_mk RX10 rfl 93 129 97 1 "there is no such identity" false (List.mem_of_getElem? (i := 0) rfl) (by decide) (by decide +kernel) (by decide +kernel) ⟨by decide +kernel, by decide +kernel, by decide +kernel⟩ (wb_5 29 rfl rfl) (wb_1 22 rfl rfl) at_RX10_97_1 rfl) (by decide +kernel)
theorem r_X10_operator_19 : IOK WB AD SR FW TB md_X10_operator 19 (.dup, 0, 0, 0, []) := io_plain (by decide +kernel) rfl
theorem r_X10_operator_26 : IOK WB AD SR FW TB md_X10_operator 26 (.iload_n 1, 0, 0, 0, []) := io_plain (by decide +kernel) rfl
theorem r_X10_operator_27 : IOK WB AD SR FW TB md_X10_operator 27 (.ifCond .lt 17, 0, 0, 0, []) := io_plain (by decide +kernel) rfl
theorem r_X10_operator_30 : IOK WB AD SR FW TB md_X10_operator 30 (.iload_n 1, 0, 0, 0, []) := io_plain (by decide +kernel) rfl
theorem r_X10_operator_31 : IOK WB AD SR FW TB md_X10_operator 31 (.iconst 3, 0, 0, 0, []) := io_plain (by decide +kernel) rfl
theorem r_X10_operator_32 : IOK WB AD SR FW TB md_X10_operator 32 (.if_icmp .gt 12, 0, 0, 0, []) := io_plain (by decide +kernel) rfl
theorem r_X10_operator_35 : IOK WB AD SR FW TB md_X10_operator 35 (.iload_n 2, 0, 0, 0, []) := io_plain (by decide +kernel) rfl
theorem r_X10_operator_36 : IOK WB AD SR FW TB md_X10_operator 36 (.ifCond .lt 8, 0, 0, 0, []) := io_plain (by decide +kernel) rfl
theorem r_X10_operator_39 : IOK WB AD SR FW TB md_X10_operator 39 (.iload_n 2, 0, 0, 0, []) := io_plain (by decide +kernel) rfl
theorem r_X10_operator_40 : IOK WB AD SR FW TB md_X10_operator 40 (.iconst 3, 0, 0, 0, []) := io_plain (by decide +kernel) rfl
theorem r_X10_operator_41 : IOK WB AD SR FW TB md_X10_operator 41 (.if_icmp .le 13, 0, 0, 0, []) := io_plain (by decide +kernel) rfl
set_option maxRecDepth 100000 in
theorem r_X10_operator_44 : IOK WB AD SR FW TB md_X10_operator 44 (.new 111, 102, 131, 115, []) := io_thx 2 rfl (thk_mk RX10 rfl 111 131 115 2 "arity or axioms are out of range" false (List.mem_of_getElem? (i := 1) rfl) (by decide) (by decide +kernel) (by decide +kernel) ⟨by decide +kernel, by decide +kernel, by decide +kernel⟩ (wb_5 63 rfl rfl) (wb_1 23 rfl rfl) at_RX10_115_2 rfl) (by decide +kernel)
theorem r_X10_operator_47 : IOK WB AD SR FW TB md_X10_operator 47 (.dup, 0, 0, 0, []) := io_plain (by decide +kernel) rfl
theorem r_X10_operator_54 : IOK WB AD SR FW TB md_X10_operator 54 (.iload_n 2, 0, 0, 0, []) := io_plain (by decide +kernel) rfl
theorem r_X10_operator_55 : IOK WB AD SR FW TB md_X10_operator 55 (.ifCond .eq 18, 0, 0, 0, []) := io_plain (by decide +kernel) rfl
theorem r_X10_operator_58 : IOK WB AD SR FW TB md_X10_operator 58 (.iload_n 1, 0, 0, 0, []) := io_plain (by decide +kernel) rfl
theorem r_X10_operator_59 : IOK WB AD SR FW TB md_X10_operator 59 (.iconst 2, 0, 0, 0, []) := io_plain (by decide +kernel) rfl
theorem r_X10_operator_60 : IOK WB AD SR FW TB md_X10_operator 60 (.if_icmp .eq 13, 0, 0, 0, []) := io_plain (by decide +kernel) rfl
set_option maxRecDepth 100000 in
theorem r_X10_operator_63 : IOK WB AD SR FW TB md_X10_operator 63 (.new 111, 102, 133, 115, []) := io_thx 2 rfl (thk_mk RX10 rfl 111 133 115 2 "axioms go with the arity 2 only" false (List.mem_of_getElem? (i := 2) rfl) (by decide) (by decide +kernel) (by decide +kernel) ⟨by decide +kernel, by decide +kernel, by decide +kernel⟩ (wb_5 63 rfl rfl) (wb_1 23 rfl rfl) at_RX10_115_2 rfl) (by decide +kernel)
theorem r_X10_operator_66 : IOK WB AD SR FW TB md_X10_operator 66 (.dup, 0, 0, 0, []) := io_plain (by decide +kernel) rfl
theorem r_X10_operator_73 : IOK WB AD SR FW TB md_X10_operator 73 (.iload_n 3, 0, 0, 0, []) := io_plain (by decide +kernel) rfl
theorem r_X10_operator_74 : IOK WB AD SR FW TB md_X10_operator 74 (.iconst (-1), 0, 0, 0, []) := io_plain (by decide +kernel) rfl
theorem r_X10_operator_75 : IOK WB AD SR FW TB md_X10_operator 75 (.if_icmp .eq 30, 0, 0, 0, []) := io_plain (by decide +kernel) rfl
theorem r_X10_operator_105 : IOK WB AD SR FW TB md_X10_operator 105 (.aload_n 0, 0, 0, 0, []) := io_plain (by decide +kernel) rfl
theorem r_X10_operator_106 : IOK WB AD SR FW TB md_X10_operator 106 (.getfield 12, 11, 0, 2, []) := io_get (by decide +kernel) fo_RX10_12
theorem r_X10_operator_109 : IOK WB AD SR FW TB md_X10_operator 109 (.getfield 140, 8, 1, 0, []) := io_get (by decide +kernel) fo_RX10_140
theorem r_X10_operator_112 : IOK WB AD SR FW TB md_X10_operator 112 (.bipush 16, 0, 0, 0, []) := io_plain (by decide +kernel) rfl
theorem r_X10_operator_114 : IOK WB AD SR FW TB md_X10_operator 114 (.if_icmp .lt 13, 0, 0, 0, []) := io_plain (by decide +kernel) rfl
theorem r_X10_operator_127 : IOK WB AD SR FW TB md_X10_operator 127 (.aload_n 0, 0, 0, 0, []) := io_plain (by decide +kernel) rfl
theorem r_X10_operator_128 : IOK WB AD SR FW TB md_X10_operator 128 (.getfield 12, 11, 0, 2, []) := io_get (by decide +kernel) fo_RX10_12
theorem r_X10_operator_131 : IOK WB AD SR FW TB md_X10_operator 131 (.iload_n 1, 0, 0, 0, []) := io_plain (by decide +kernel) rfl
set_option maxRecDepth 100000 in
theorem ok_X10_operator_0 : ∀ q ∈ tl_X10_operator_0, IOK WB AD SR FW TB md_X10_operator q.1 q.2 := List.forall_mem_cons.mpr ⟨r_X10_operator_0, List.forall_mem_cons.mpr ⟨r_X10_operator_1, List.forall_mem_cons.mpr ⟨r_X10_operator_2, List.forall_mem_cons.mpr ⟨r_X10_operator_5, List.forall_mem_cons.mpr ⟨r_X10_operator_6, List.forall_mem_cons.mpr ⟨r_X10_operator_9, List.forall_mem_cons.mpr ⟨r_X10_operator_10, List.forall_mem_cons.mpr ⟨r_X10_operator_13, List.forall_mem_cons.mpr ⟨r_X10_operator_16, List.forall_mem_cons.mpr ⟨r_X10_operator_19, List.forall_mem_cons.mpr ⟨r_X10_operator_26, List.forall_mem_cons.mpr ⟨r_X10_operator_27, List.forall_mem_cons.mpr ⟨r_X10_operator_30, List.forall_mem_cons.mpr ⟨r_X10_operator_31, List.forall_mem_cons.mpr ⟨r_X10_operator_32, List.forall_mem_cons.mpr ⟨r_X10_operator_35, List.forall_mem_cons.mpr ⟨r_X10_operator_36, List.forall_mem_cons.mpr ⟨r_X10_operator_39, List.forall_mem_cons.mpr ⟨r_X10_operator_40, List.forall_mem_cons.mpr ⟨r_X10_operator_41, List.forall_mem_cons.mpr ⟨r_X10_operator_44, List.forall_mem_cons.mpr ⟨r_X10_operator_47, List.forall_mem_cons.mpr ⟨r_X10_operator_54, List.forall_mem_cons.mpr ⟨r_X10_operator_55, List.forall_mem_cons.mpr ⟨r_X10_operator_58, List.forall_mem_cons.mpr ⟨r_X10_operator_59, List.forall_mem_cons.mpr ⟨r_X10_operator_60, List.forall_mem_cons.mpr ⟨r_X10_operator_63, List.forall_mem_cons.mpr ⟨r_X10_operator_66, List.forall_mem_cons.mpr ⟨r_X10_operator_73, List.forall_mem_cons.mpr ⟨r_X10_operator_74, List.forall_mem_cons.mpr ⟨r_X10_operator_75, List.forall_mem_cons.mpr ⟨r_X10_operator_105, List.forall_mem_cons.mpr ⟨r_X10_operator_106, List.forall_mem_cons.mpr ⟨r_X10_operator_109, List.forall_mem_cons.mpr ⟨r_X10_operator_112, List.forall_mem_cons.mpr ⟨r_X10_operator_114, List.forall_mem_cons.mpr ⟨r_X10_operator_127, List.forall_mem_cons.mpr ⟨r_X10_operator_128, List.forall_mem_cons.mpr ⟨r_X10_operator_131, fun _ h => absurd h List.not_mem_nil⟩⟩⟩⟩⟩⟩⟩⟩⟩⟩⟩⟩⟩⟩⟩⟩⟩⟩⟩⟩⟩⟩⟩⟩⟩⟩⟩⟩⟩⟩⟩⟩⟩⟩⟩⟩⟩⟩⟩⟩
set_option maxRecDepth 100000 in
theorem tq_X10_operator_0 : tf_X10_operator_0 = tl_X10_operator_0.map (fun q => (q.1, stepOf NPf md_X10_operator q.2)) := rfl
theorem r_X10_operator_132 : IOK WB AD SR FW TB md_X10_operator 132 (.iload_n 2, 0, 0, 0, []) := io_plain (by decide +kernel) rfl
theorem r_X10_operator_133 : IOK WB AD SR FW TB md_X10_operator 133 (.iload_n 3, 0, 0, 0, []) := io_plain (by decide +kernel) rfl
theorem r_X10_operator_134 : IOK WB AD SR FW TB md_X10_operator 134 (.invokevirtual 145, 35, 8, 0, []) := io_virt (by decide +kernel) tb_X7_addOperator (wb_5 100 rfl rfl) in_X7_addOperator se_X7_addOperator ⟨_, rfl, rfl⟩ pr_X7_addOperator (by decide)
theorem r_X10_operator_137 : IOK WB AD SR FW TB md_X10_operator 137 (.ireturn, 0, 0, 0, []) := io_plain (by decide +kernel) rfl
set_option maxRecDepth 100000 in
theorem ok_X10_operator_1 : ∀ q ∈ tl_X10_operator_1, IOK WB AD SR FW TB md_X10_operator q.1 q.2 := List.forall_mem_cons.mpr ⟨r_X10_operator_132, List.forall_mem_cons.mpr ⟨r_X10_operator_133, List.forall_mem_cons.mpr ⟨r_X10_operator_134, List.forall_mem_cons.mpr ⟨r_X10_operator_137, fun _ h => absurd h List.not_mem_nil⟩⟩⟩⟩
set_option maxRecDepth 100000 in
theorem tq_X10_operator_1 : tf_X10_operator_1 = tl_X10_operator_1.map (fun q => (q.1, stepOf NPf md_X10_operator q.2)) := rfl
theorem ro_X10_operator : RowsOK (md_X10_operator, tl_X10_operator) tf_X10_operator := rows_app ⟨tq_X10_operator_0, ok_X10_operator_0⟩ (⟨tq_X10_operator_1, ok_X10_operator_1⟩)
theorem r_L_operator_0 : IOK WB AD SR FW TB md_L_operator 0 (.aload 4, 0, 0, 0, []) := io_plain (by decide +kernel) rfl
theorem r_L_operator_2 : IOK WB AD SR FW TB md_L_operator 2 (.iconst 0, 0, 0, 0, []) := io_plain (by decide +kernel) rfl
theorem r_L_operator_3 : IOK WB AD SR FW TB md_L_operator 3 (.aload_n 0, 0, 0, 0, []) := io_plain (by decide +kernel) rfl
theorem r_L_operator_4 : IOK WB AD SR FW TB md_L_operator 4 (.iload_n 1, 0, 0, 0, []) := io_plain (by decide +kernel) rfl
theorem r_L_operator_5 : IOK WB AD SR FW TB md_L_operator 5 (.iload_n 2, 0, 0, 0, []) := io_plain (by decide +kernel) rfl
theorem r_L_operator_6 : IOK WB AD SR FW TB md_L_operator 6 (.iload_n 3, 0, 0, 0, []) := io_plain (by decide +kernel) rfl
theorem r_L_operator_7 : IOK WB AD SR FW TB md_L_operator 7 (.invokevirtual 27, 20, 11, 0, []) := io_virt (by decide +kernel) tb_X10_operator (wb_5 87 rfl rfl) in_X10_operator se_X10_operator ⟨_, rfl, rfl⟩ pr_X10_operator (by decide)
theorem r_L_operator_10 : IOK WB AD SR FW TB md_L_operator 10 (.i2l, 0, 0, 0, []) := io_plain (by decide +kernel) rfl
theorem r_L_operator_11 : IOK WB AD SR FW TB md_L_operator 11 (.lastore, 0, 0, 0, []) := io_plain (by decide +kernel) rfl
theorem r_L_operator_12 : IOK WB AD SR FW TB md_L_operator 12 (.goto 15, 0, 0, 0, []) := io_plain (by decide +kernel) rfl
theorem r_L_operator_15 : IOK WB AD SR FW TB md_L_operator 15 (.astore 5, 0, 0, 0, []) := io_plain (by decide +kernel) rfl
theorem r_L_operator_17 : IOK WB AD SR FW TB md_L_operator 17 (.iconst 1, 0, 0, 0, []) := io_plain (by decide +kernel) rfl
theorem r_L_operator_18 : IOK WB AD SR FW TB md_L_operator 18 (.ireturn, 0, 0, 0, []) := io_plain (by decide +kernel) rfl
theorem r_L_operator_19 : IOK WB AD SR FW TB md_L_operator 19 (.astore 5, 0, 0, 0, []) := io_plain (by decide +kernel) rfl
theorem r_L_operator_21 : IOK WB AD SR FW TB md_L_operator 21 (.iconst 2, 0, 0, 0, []) := io_plain (by decide +kernel) rfl
theorem r_L_operator_22 : IOK WB AD SR FW TB md_L_operator 22 (.ireturn, 0, 0, 0, []) := io_plain (by decide +kernel) rfl
theorem r_L_operator_27 : IOK WB AD SR FW TB md_L_operator 27 (.iconst 0, 0, 0, 0, []) := io_plain (by decide +kernel) rfl
theorem r_L_operator_28 : IOK WB AD SR FW TB md_L_operator 28 (.ireturn, 0, 0, 0, []) := io_plain (by decide +kernel) rfl
set_option maxRecDepth 100000 in
theorem ok_L_operator_0 : ∀ q ∈ tl_L_operator, IOK WB AD SR FW TB md_L_operator q.1 q.2 := List.forall_mem_cons.mpr ⟨r_L_operator_0, List.forall_mem_cons.mpr ⟨r_L_operator_2, List.forall_mem_cons.mpr ⟨r_L_operator_3, List.forall_mem_cons.mpr ⟨r_L_operator_4, List.forall_mem_cons.mpr ⟨r_L_operator_5, List.forall_mem_cons.mpr ⟨r_L_operator_6, List.forall_mem_cons.mpr ⟨r_L_operator_7, List.forall_mem_cons.mpr ⟨r_L_operator_10, List.forall_mem_cons.mpr ⟨r_L_operator_11, List.forall_mem_cons.mpr ⟨r_L_operator_12, List.forall_mem_cons.mpr ⟨r_L_operator_15, List.forall_mem_cons.mpr ⟨r_L_operator_17, List.forall_mem_cons.mpr ⟨r_L_operator_18, List.forall_mem_cons.mpr ⟨r_L_operator_19, List.forall_mem_cons.mpr ⟨r_L_operator_21, List.forall_mem_cons.mpr ⟨r_L_operator_22, List.forall_mem_cons.mpr ⟨r_L_operator_27, List.forall_mem_cons.mpr ⟨r_L_operator_28, fun _ h => absurd h List.not_mem_nil⟩⟩⟩⟩⟩⟩⟩⟩⟩⟩⟩⟩⟩⟩⟩⟩⟩⟩
set_option maxRecDepth 100000 in
theorem tq_L_operator_0 : tf_L_operator = tl_L_operator.map (fun q => (q.1, stepOf NPf md_L_operator q.2)) := rfl
theorem ro_L_operator : RowsOK (md_L_operator, tl_L_operator) tf_L_operator := ⟨tq_L_operator_0, ok_L_operator_0⟩
theorem r_X17_thrown_0 : IOK WB AD SR FW TB md_X17_thrown 0 (.aload_n 0, 0, 0, 0, []) := io_plain (by decide +kernel) rfl
theorem r_X17_thrown_1 : IOK WB AD SR FW TB md_X17_thrown 1 (.getfield 114, 18, 0, 0, []) := io_get (by decide +kernel) fo_RX17_114
theorem r_X17_thrown_4 : IOK WB AD SR FW TB md_X17_thrown 4 (.ireturn, 0, 0, 0, []) := io_plain (by decide +kernel) rfl
set_option maxRecDepth 100000 in
theorem ok_X17_thrown_0 : ∀ q ∈ tl_X17_thrown, IOK WB AD SR FW TB md_X17_thrown q.1 q.2 := List.forall_mem_cons.mpr ⟨r_X17_thrown_0, List.forall_mem_cons.mpr ⟨r_X17_thrown_1, List.forall_mem_cons.mpr ⟨r_X17_thrown_4, fun _ h => absurd h List.not_mem_nil⟩⟩⟩
set_option maxRecDepth 100000 in
theorem tq_X17_thrown_0 : tf_X17_thrown = tl_X17_thrown.map (fun q => (q.1, stepOf NPf md_X17_thrown q.2)) := rfl
theorem ro_X17_thrown : RowsOK (md_X17_thrown, tl_X17_thrown) tf_X17_thrown := ⟨tq_X17_thrown_0, ok_X17_thrown_0⟩
theorem r_X17_load_0 : IOK WB AD SR FW TB md_X17_load 0 (.aload_n 0, 0, 0, 0, []) := io_plain (by decide +kernel) rfl
theorem r_X17_load_1 : IOK WB AD SR FW TB md_X17_load 1 (.iload_n 1, 0, 0, 0, []) := io_plain (by decide +kernel) rfl
theorem r_X17_load_2 : IOK WB AD SR FW TB md_X17_load 2 (.iconst 0, 0, 0, 0, []) := io_plain (by decide +kernel) rfl
theorem r_X17_load_3 : IOK WB AD SR FW TB md_X17_load 3 (.bipush 19, 0, 0, 0, []) := io_plain (by decide +kernel) rfl
theorem r_X17_load_5 : IOK WB AD SR FW TB md_X17_load 5 (.invokestatic 370, 19, 18, 0, []) := io_stat (by decide +kernel) tb_X17_isIn (wb_9 104 rfl rfl) st_X17_isIn pr_X17_isIn
theorem r_X17_load_8 : IOK WB AD SR FW TB md_X17_load 8 (.ifCond .ne 7, 0, 0, 0, []) := io_plain (by decide +kernel) rfl
theorem r_X17_load_11 : IOK WB AD SR FW TB md_X17_load 11 (.iconst 1, 0, 0, 0, []) := io_plain (by decide +kernel) rfl
theorem r_X17_load_12 : IOK WB AD SR FW TB md_X17_load 12 (.goto 31, 0, 0, 0, []) := io_plain (by decide +kernel) rfl
theorem r_X17_load_15 : IOK WB AD SR FW TB md_X17_load 15 (.aload_n 0, 0, 0, 0, []) := io_plain (by decide +kernel) rfl
theorem r_X17_load_16 : IOK WB AD SR FW TB md_X17_load 16 (.getfield 50, 18, 14, 2, []) := io_get (by decide +kernel) fo_RX17_50
theorem r_X17_load_19 : IOK WB AD SR FW TB md_X17_load 19 (.iload_n 1, 0, 0, 0, []) := io_plain (by decide +kernel) rfl
theorem r_X17_load_20 : IOK WB AD SR FW TB md_X17_load 20 (.aaload, 0, 0, 0, []) := io_plain (by decide +kernel) rfl
theorem r_X17_load_21 : IOK WB AD SR FW TB md_X17_load 21 (.ifnull 17, 0, 0, 0, []) := io_plain (by decide +kernel) rfl
theorem r_X17_load_38 : IOK WB AD SR FW TB md_X17_load 38 (.iconst 2, 0, 0, 0, []) := io_plain (by decide +kernel) rfl
theorem r_X17_load_39 : IOK WB AD SR FW TB md_X17_load 39 (.goto 4, 0, 0, 0, []) := io_plain (by decide +kernel) rfl
theorem r_X17_load_43 : IOK WB AD SR FW TB md_X17_load 43 (.putfield 114, 18, 0, 0, []) := io_put (by decide +kernel) fo_RX17_114 po_RX17_0_18_0_0
theorem r_X17_load_46 : IOK WB AD SR FW TB md_X17_load 46 (.aload_n 0, 0, 0, 0, []) := io_plain (by decide +kernel) rfl
theorem r_X17_load_47 : IOK WB AD SR FW TB md_X17_load 47 (.getfield 114, 18, 0, 0, []) := io_get (by decide +kernel) fo_RX17_114
theorem r_X17_load_50 : IOK WB AD SR FW TB md_X17_load 50 (.ifCond .le 5, 0, 0, 0, []) := io_plain (by decide +kernel) rfl
theorem r_X17_load_53 : IOK WB AD SR FW TB md_X17_load 53 (.iconst 0, 0, 0, 0, []) := io_plain (by decide +kernel) rfl
theorem r_X17_load_54 : IOK WB AD SR FW TB md_X17_load 54 (.ireturn, 0, 0, 0, []) := io_plain (by decide +kernel) rfl
set_option maxRecDepth 100000 in
theorem ok_X17_load_0 : ∀ q ∈ tl_X17_load, IOK WB AD SR FW TB md_X17_load q.1 q.2 := List.forall_mem_cons.mpr ⟨r_X17_load_0, List.forall_mem_cons.mpr ⟨r_X17_load_1, List.forall_mem_cons.mpr ⟨r_X17_load_2, List.forall_mem_cons.mpr ⟨r_X17_load_3, List.forall_mem_cons.mpr ⟨r_X17_load_5, List.forall_mem_cons.mpr ⟨r_X17_load_8, List.forall_mem_cons.mpr ⟨r_X17_load_11, List.forall_mem_cons.mpr ⟨r_X17_load_12, List.forall_mem_cons.mpr ⟨r_X17_load_15, List.forall_mem_cons.mpr ⟨r_X17_load_16, List.forall_mem_cons.mpr ⟨r_X17_load_19, List.forall_mem_cons.mpr ⟨r_X17_load_20, List.forall_mem_cons.mpr ⟨r_X17_load_21, List.forall_mem_cons.mpr ⟨r_X17_load_38, List.forall_mem_cons.mpr ⟨r_X17_load_39, List.forall_mem_cons.mpr ⟨r_X17_load_43, List.forall_mem_cons.mpr ⟨r_X17_load_46, List.forall_mem_cons.mpr ⟨r_X17_load_47, List.forall_mem_cons.mpr ⟨r_X17_load_50, List.forall_mem_cons.mpr ⟨r_X17_load_53, List.forall_mem_cons.mpr ⟨r_X17_load_54, fun _ h => absurd h List.not_mem_nil⟩⟩⟩⟩⟩⟩⟩⟩⟩⟩⟩⟩⟩⟩⟩⟩⟩⟩⟩⟩⟩
set_option maxRecDepth 100000 in
theorem tq_X17_load_0 : tf_X17_load = tl_X17_load.map (fun q => (q.1, stepOf NPf md_X17_load q.2)) := rfl
theorem ro_X17_load : RowsOK (md_X17_load, tl_X17_load) tf_X17_load := ⟨tq_X17_load_0, ok_X17_load_0⟩
theorem r_X7_hasOperator_0 : IOK WB AD SR FW TB md_X7_hasOperator 0 (.iload_n 1, 0, 0, 0, []) := io_plain (by decide +kernel) rfl
theorem r_X7_hasOperator_1 : IOK WB AD SR FW TB md_X7_hasOperator 1 (.ifCond .lt 15, 0, 0, 0, []) := io_plain (by decide +kernel) rfl
theorem r_X7_hasOperator_4 : IOK WB AD SR FW TB md_X7_hasOperator 4 (.iload_n 1, 0, 0, 0, []) := io_plain (by decide +kernel) rfl
theorem r_X7_hasOperator_5 : IOK WB AD SR FW TB md_X7_hasOperator 5 (.aload_n 0, 0, 0, 0, []) := io_plain (by decide +kernel) rfl
theorem r_X7_hasOperator_6 : IOK WB AD SR FW TB md_X7_hasOperator 6 (.getfield 49, 8, 1, 0, []) := io_get (by decide +kernel) fo_RX7_49
theorem r_X7_hasOperator_9 : IOK WB AD SR FW TB md_X7_hasOperator 9 (.if_icmp .ge 7, 0, 0, 0, []) := io_plain (by decide +kernel) rfl
theorem r_X7_hasOperator_16 : IOK WB AD SR FW TB md_X7_hasOperator 16 (.iconst 0, 0, 0, 0, []) := io_plain (by decide +kernel) rfl
theorem r_X7_hasOperator_17 : IOK WB AD SR FW TB md_X7_hasOperator 17 (.ireturn, 0, 0, 0, []) := io_plain (by decide +kernel) rfl
set_option maxRecDepth 100000 in
theorem ok_X7_hasOperator_0 : ∀ q ∈ tl_X7_hasOperator, IOK WB AD SR FW TB md_X7_hasOperator q.1 q.2 := List.forall_mem_cons.mpr ⟨r_X7_hasOperator_0, List.forall_mem_cons.mpr ⟨r_X7_hasOperator_1, List.forall_mem_cons.mpr ⟨r_X7_hasOperator_4, List.forall_mem_cons.mpr ⟨r_X7_hasOperator_5, List.forall_mem_cons.mpr ⟨r_X7_hasOperator_6, List.forall_mem_cons.mpr ⟨r_X7_hasOperator_9, List.forall_mem_cons.mpr ⟨r_X7_hasOperator_16, List.forall_mem_cons.mpr ⟨r_X7_hasOperator_17, fun _ h => absurd h List.not_mem_nil⟩⟩⟩⟩⟩⟩⟩⟩
set_option maxRecDepth 100000 in
theorem tq_X7_hasOperator_0 : tf_X7_hasOperator = tl_X7_hasOperator.map (fun q => (q.1, stepOf NPf md_X7_hasOperator q.2)) := rfl
theorem ro_X7_hasOperator : RowsOK (md_X7_hasOperator, tl_X7_hasOperator) tf_X7_hasOperator := ⟨tq_X7_hasOperator_0, ok_X7_hasOperator_0⟩
theorem r_X17_term_0 : IOK WB AD SR FW TB md_X17_term 0 (.aload_n 0, 0, 0, 0, []) := io_plain (by decide +kernel) rfl
theorem r_X17_term_1 : IOK WB AD SR FW TB md_X17_term 1 (.iload_n 1, 0, 0, 0, []) := io_plain (by decide +kernel) rfl
theorem r_X17_term_2 : IOK WB AD SR FW TB md_X17_term 2 (.iconst 0, 0, 0, 0, []) := io_plain (by decide +kernel) rfl
theorem r_X17_term_3 : IOK WB AD SR FW TB md_X17_term 3 (.bipush 9, 0, 0, 0, []) := io_plain (by decide +kernel) rfl
theorem r_X17_term_5 : IOK WB AD SR FW TB md_X17_term 5 (.invokestatic 370, 19, 18, 0, []) := io_stat (by decide +kernel) tb_X17_isIn (wb_9 104 rfl rfl) st_X17_isIn pr_X17_isIn
theorem r_X17_term_8 : IOK WB AD SR FW TB md_X17_term 8 (.ifCond .ne 7, 0, 0, 0, []) := io_plain (by decide +kernel) rfl
theorem r_X17_term_11 : IOK WB AD SR FW TB md_X17_term 11 (.iconst 1, 0, 0, 0, []) := io_plain (by decide +kernel) rfl
theorem r_X17_term_12 : IOK WB AD SR FW TB md_X17_term 12 (.goto 22, 0, 0, 0, []) := io_plain (by decide +kernel) rfl
theorem r_X17_term_15 : IOK WB AD SR FW TB md_X17_term 15 (.aload_n 0, 0, 0, 0, []) := io_plain (by decide +kernel) rfl
theorem r_X17_term_16 : IOK WB AD SR FW TB md_X17_term 16 (.getfield 44, 18, 13, 2, []) := io_get (by decide +kernel) fo_RX17_44
theorem r_X17_term_19 : IOK WB AD SR FW TB md_X17_term 19 (.invokeinterface 271 1, 30, 0, 0, []) := io_face (by decide +kernel) tb_Jx4a65c_size_8abf5 (List.mem_of_getElem? (i := 0) rfl) (wb_8 32 rfl rfl) in_Jx4a65c_size_8abf5 (wb_8 35 rfl rfl) rfl rfl rfl pr_Jx4a65c_size_8abf5 (by decide)
theorem r_X17_term_24 : IOK WB AD SR FW TB md_X17_term 24 (.bipush 10, 0, 0, 0, []) := io_plain (by decide +kernel) rfl
theorem r_X17_term_26 : IOK WB AD SR FW TB md_X17_term 26 (.if_icmp .ne 7, 0, 0, 0, []) := io_plain (by decide +kernel) rfl
theorem r_X17_term_33 : IOK WB AD SR FW TB md_X17_term 33 (.iconst 0, 0, 0, 0, []) := io_plain (by decide +kernel) rfl
theorem r_X17_term_34 : IOK WB AD SR FW TB md_X17_term 34 (.putfield 114, 18, 0, 0, []) := io_put (by decide +kernel) fo_RX17_114 po_RX17_0_18_0_0
theorem r_X17_term_37 : IOK WB AD SR FW TB md_X17_term 37 (.aload_n 0, 0, 0, 0, []) := io_plain (by decide +kernel) rfl
theorem r_X17_term_38 : IOK WB AD SR FW TB md_X17_term 38 (.getfield 114, 18, 0, 0, []) := io_get (by decide +kernel) fo_RX17_114
theorem r_X17_term_41 : IOK WB AD SR FW TB md_X17_term 41 (.ifCond .le 5, 0, 0, 0, []) := io_plain (by decide +kernel) rfl
theorem r_X17_term_44 : IOK WB AD SR FW TB md_X17_term 44 (.iconst 0, 0, 0, 0, []) := io_plain (by decide +kernel) rfl
theorem r_X17_term_45 : IOK WB AD SR FW TB md_X17_term 45 (.ireturn, 0, 0, 0, []) := io_plain (by decide +kernel) rfl
theorem r_X17_term_46 : IOK WB AD SR FW TB md_X17_term 46 (.aload_n 0, 0, 0, 0, []) := io_plain (by decide +kernel) rfl
theorem r_X17_term_47 : IOK WB AD SR FW TB md_X17_term 47 (.getfield 44, 18, 13, 2, []) := io_get (by decide +kernel) fo_RX17_44
theorem r_X17_term_50 : IOK WB AD SR FW TB md_X17_term 50 (.aload_n 0, 0, 0, 0, []) := io_plain (by decide +kernel) rfl
theorem r_X17_term_51 : IOK WB AD SR FW TB md_X17_term 51 (.getfield 75, 18, 29, 2, []) := io_get (by decide +kernel) fo_RX17_75
theorem r_X17_term_54 : IOK WB AD SR FW TB md_X17_term 54 (.iload_n 1, 0, 0, 0, []) := io_plain (by decide +kernel) rfl
theorem r_X17_term_55 : IOK WB AD SR FW TB md_X17_term 55 (.aaload, 0, 0, 0, []) := io_plain (by decide +kernel) rfl
theorem r_X17_term_56 : IOK WB AD SR FW TB md_X17_term 56 (.invokeinterface 344 2, 33, 0, 0, []) := io_face (by decide +kernel) tb_Jx4a65c_add_9ea2d (List.mem_of_getElem? (i := 1) rfl) (wb_9 10 rfl rfl) in_Jx4a65c_add_9ea2d (wb_9 13 rfl rfl) rfl rfl rfl pr_Jx4a65c_add_9ea2d (by decide)
theorem r_X17_term_61 : IOK WB AD SR FW TB md_X17_term 61 (.pop, 0, 0, 0, []) := io_plain (by decide +kernel) rfl
theorem r_X17_term_62 : IOK WB AD SR FW TB md_X17_term 62 (.aload_n 0, 0, 0, 0, []) := io_plain (by decide +kernel) rfl
theorem r_X17_term_63 : IOK WB AD SR FW TB md_X17_term 63 (.getfield 44, 18, 13, 2, []) := io_get (by decide +kernel) fo_RX17_44
theorem r_X17_term_66 : IOK WB AD SR FW TB md_X17_term 66 (.invokeinterface 271 1, 30, 0, 0, []) := io_face (by decide +kernel) tb_Jx4a65c_size_8abf5 (List.mem_of_getElem? (i := 0) rfl) (wb_8 32 rfl rfl) in_Jx4a65c_size_8abf5 (wb_8 35 rfl rfl) rfl rfl rfl pr_Jx4a65c_size_8abf5 (by decide)
theorem r_X17_term_71 : IOK WB AD SR FW TB md_X17_term 71 (.ireturn, 0, 0, 0, []) := io_plain (by decide +kernel) rfl
set_option maxRecDepth 100000 in
theorem ok_X17_term_0 : ∀ q ∈ tl_X17_term, IOK WB AD SR FW TB md_X17_term q.1 q.2 := List.forall_mem_cons.mpr ⟨r_X17_term_0, List.forall_mem_cons.mpr ⟨r_X17_term_1, List.forall_mem_cons.mpr ⟨r_X17_term_2, List.forall_mem_cons.mpr ⟨r_X17_term_3, List.forall_mem_cons.mpr ⟨r_X17_term_5, List.forall_mem_cons.mpr ⟨r_X17_term_8, List.forall_mem_cons.mpr ⟨r_X17_term_11, List.forall_mem_cons.mpr ⟨r_X17_term_12, List.forall_mem_cons.mpr ⟨r_X17_term_15, List.forall_mem_cons.mpr ⟨r_X17_term_16, List.forall_mem_cons.mpr ⟨r_X17_term_19, List.forall_mem_cons.mpr ⟨r_X17_term_24, List.forall_mem_cons.mpr ⟨r_X17_term_26, List.forall_mem_cons.mpr ⟨r_X17_term_33, List.forall_mem_cons.mpr ⟨r_X17_term_34, List.forall_mem_cons.mpr ⟨r_X17_term_37, List.forall_mem_cons.mpr ⟨r_X17_term_38, List.forall_mem_cons.mpr ⟨r_X17_term_41, List.forall_mem_cons.mpr ⟨r_X17_term_44, List.forall_mem_cons.mpr ⟨r_X17_term_45, List.forall_mem_cons.mpr ⟨r_X17_term_46, List.forall_mem_cons.mpr ⟨r_X17_term_47, List.forall_mem_cons.mpr ⟨r_X17_term_50, List.forall_mem_cons.mpr ⟨r_X17_term_51, List.forall_mem_cons.mpr ⟨r_X17_term_54, List.forall_mem_cons.mpr ⟨r_X17_term_55, List.forall_mem_cons.mpr ⟨r_X17_term_56, List.forall_mem_cons.mpr ⟨r_X17_term_61, List.forall_mem_cons.mpr ⟨r_X17_term_62, List.forall_mem_cons.mpr ⟨r_X17_term_63, List.forall_mem_cons.mpr ⟨r_X17_term_66, List.forall_mem_cons.mpr ⟨r_X17_term_71, fun _ h => absurd h List.not_mem_nil⟩⟩⟩⟩⟩⟩⟩⟩⟩⟩⟩⟩⟩⟩⟩⟩⟩⟩⟩⟩⟩⟩⟩⟩⟩⟩⟩⟩⟩⟩⟩⟩
set_option maxRecDepth 100000 in
theorem tq_X17_term_0 : tf_X17_term = tl_X17_term.map (fun q => (q.1, stepOf NPf md_X17_term q.2)) := rfl
theorem ro_X17_term : RowsOK (md_X17_term, tl_X17_term) tf_X17_term := ⟨tq_X17_term_0, ok_X17_term_0⟩
theorem r_X8_end_0 : IOK WB AD SR FW TB md_X8_end 0 (.iconst 1, 0, 0, 0, []) := io_plain (by decide +kernel) rfl
theorem r_X8_end_1 : IOK WB AD SR FW TB md_X8_end 1 (.istore_n 2, 0, 0, 0, []) := io_plain (by decide +kernel) rfl
theorem r_X8_end_2 : IOK WB AD SR FW TB md_X8_end 2 (.iload_n 1, 0, 0, 0, []) := io_plain (by decide +kernel) rfl
theorem r_X8_end_3 : IOK WB AD SR FW TB md_X8_end 3 (.istore_n 3, 0, 0, 0, []) := io_plain (by decide +kernel) rfl
theorem r_X8_end_4 : IOK WB AD SR FW TB md_X8_end 4 (.iload_n 2, 0, 0, 0, []) := io_plain (by decide +kernel) rfl
theorem r_X8_end_5 : IOK WB AD SR FW TB md_X8_end 5 (.ifCond .le 45, 0, 0, 0, []) := io_plain (by decide +kernel) rfl
theorem r_X8_end_8 : IOK WB AD SR FW TB md_X8_end 8 (.iload_n 3, 0, 0, 0, []) := io_plain (by decide +kernel) rfl
theorem r_X8_end_9 : IOK WB AD SR FW TB md_X8_end 9 (.sipush 27500, 0, 0, 0, []) := io_plain (by decide +kernel) rfl
theorem r_X8_end_12 : IOK WB AD SR FW TB md_X8_end 12 (.if_icmp .ge 38, 0, 0, 0, []) := io_plain (by decide +kernel) rfl
theorem r_X8_end_15 : IOK WB AD SR FW TB md_X8_end 15 (.aload_n 0, 0, 0, 0, []) := io_plain (by decide +kernel) rfl
theorem r_X8_end_16 : IOK WB AD SR FW TB md_X8_end 16 (.getfield 9, 9, 1, 2, []) := io_get (by decide +kernel) fo_RX8_9
theorem r_X8_end_19 : IOK WB AD SR FW TB md_X8_end 19 (.iload_n 3, 0, 0, 0, []) := io_plain (by decide +kernel) rfl
theorem r_X8_end_20 : IOK WB AD SR FW TB md_X8_end 20 (.iaload, 0, 0, 0, []) := io_plain (by decide +kernel) rfl
theorem r_X8_end_21 : IOK WB AD SR FW TB md_X8_end 21 (.istore 4, 0, 0, 0, []) := io_plain (by decide +kernel) rfl
theorem r_X8_end_23 : IOK WB AD SR FW TB md_X8_end 23 (.iload_n 2, 0, 0, 0, []) := io_plain (by decide +kernel) rfl
theorem r_X8_end_24 : IOK WB AD SR FW TB md_X8_end 24 (.iload 4, 0, 0, 0, []) := io_plain (by decide +kernel) rfl
theorem r_X8_end_26 : IOK WB AD SR FW TB md_X8_end 26 (.bipush 32, 0, 0, 0, []) := io_plain (by decide +kernel) rfl
theorem r_X8_end_28 : IOK WB AD SR FW TB md_X8_end 28 (.if_icmp .ge 7, 0, 0, 0, []) := io_plain (by decide +kernel) rfl
theorem r_X8_end_31 : IOK WB AD SR FW TB md_X8_end 31 (.iconst (-1), 0, 0, 0, []) := io_plain (by decide +kernel) rfl
theorem r_X8_end_32 : IOK WB AD SR FW TB md_X8_end 32 (.goto 10, 0, 0, 0, []) := io_plain (by decide +kernel) rfl
theorem r_X8_end_42 : IOK WB AD SR FW TB md_X8_end 42 (.iadd, 0, 0, 0, []) := io_plain (by decide +kernel) rfl
theorem r_X8_end_43 : IOK WB AD SR FW TB md_X8_end 43 (.istore_n 2, 0, 0, 0, []) := io_plain (by decide +kernel) rfl
theorem r_X8_end_44 : IOK WB AD SR FW TB md_X8_end 44 (.iinc 3 1, 0, 0, 0, []) := io_plain (by decide +kernel) rfl
theorem r_X8_end_47 : IOK WB AD SR FW TB md_X8_end 47 (.goto (-43), 0, 0, 0, []) := io_plain (by decide +kernel) rfl
theorem r_X8_end_50 : IOK WB AD SR FW TB md_X8_end 50 (.iload_n 3, 0, 0, 0, []) := io_plain (by decide +kernel) rfl
theorem r_X8_end_51 : IOK WB AD SR FW TB md_X8_end 51 (.ireturn, 0, 0, 0, []) := io_plain (by decide +kernel) rfl
set_option maxRecDepth 100000 in
theorem ok_X8_end_0 : ∀ q ∈ tl_X8_end, IOK WB AD SR FW TB md_X8_end q.1 q.2 := List.forall_mem_cons.mpr ⟨r_X8_end_0, List.forall_mem_cons.mpr ⟨r_X8_end_1, List.forall_mem_cons.mpr ⟨r_X8_end_2, List.forall_mem_cons.mpr ⟨r_X8_end_3, List.forall_mem_cons.mpr ⟨r_X8_end_4, List.forall_mem_cons.mpr ⟨r_X8_end_5, List.forall_mem_cons.mpr ⟨r_X8_end_8, List.forall_mem_cons.mpr ⟨r_X8_end_9, List.forall_mem_cons.mpr ⟨r_X8_end_12, List.forall_mem_cons.mpr ⟨r_X8_end_15, List.forall_mem_cons.mpr ⟨r_X8_end_16, List.forall_mem_cons.mpr ⟨r_X8_end_19, List.forall_mem_cons.mpr ⟨r_X8_end_20, List.forall_mem_cons.mpr ⟨r_X8_end_21, List.forall_mem_cons.mpr ⟨r_X8_end_23, List.forall_mem_cons.mpr ⟨r_X8_end_24, List.forall_mem_cons.mpr ⟨r_X8_end_26, List.forall_mem_cons.mpr ⟨r_X8_end_28, List.forall_mem_cons.mpr ⟨r_X8_end_31, List.forall_mem_cons.mpr ⟨r_X8_end_32, List.forall_mem_cons.mpr ⟨r_X8_end_42, List.forall_mem_cons.mpr ⟨r_X8_end_43, List.forall_mem_cons.mpr ⟨r_X8_end_44, List.forall_mem_cons.mpr ⟨r_X8_end_47, List.forall_mem_cons.mpr ⟨r_X8_end_50, List.forall_mem_cons.mpr ⟨r_X8_end_51, fun _ h => absurd h List.not_mem_nil⟩⟩⟩⟩⟩⟩⟩⟩⟩⟩⟩⟩⟩⟩⟩⟩⟩⟩⟩⟩⟩⟩⟩⟩⟩⟩
set_option maxRecDepth 100000 in
theorem tq_X8_end_0 : tf_X8_end = tl_X8_end.map (fun q => (q.1, stepOf NPf md_X8_end q.2)) := rfl
