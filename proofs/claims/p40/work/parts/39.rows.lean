theorem r_X17_tell_256 : IOK WB AD SR FW TB md_X17_tell 256 (.aload_n 0, 0, 0, 0, []) := io_plain (by decide +kernel) rfl
theorem r_X17_tell_257 : IOK WB AD SR FW TB md_X17_tell 257 (.getfield 304, 18, 25, 1, []) := io_get (by decide +kernel) fo_RX17_304
theorem r_X17_tell_260 : IOK WB AD SR FW TB md_X17_tell 260 (.ifCond .ne 11, 0, 0, 0, []) := io_plain (by decide +kernel) rfl
theorem r_X17_tell_263 : IOK WB AD SR FW TB md_X17_tell 263 (.iload_n 2, 0, 0, 0, []) := io_plain (by decide +kernel) rfl
theorem r_X17_tell_264 : IOK WB AD SR FW TB md_X17_tell 264 (.ifCond .eq 11, 0, 0, 0, []) := io_plain (by decide +kernel) rfl
theorem r_X17_tell_275 : IOK WB AD SR FW TB md_X17_tell 275 (.iconst 0, 0, 0, 0, []) := io_plain (by decide +kernel) rfl
theorem r_X17_tell_276 : IOK WB AD SR FW TB md_X17_tell 276 (.putfield 304, 18, 25, 1, []) := io_put (by decide +kernel) fo_RX17_304 po_RX17_0_18_25_1
theorem r_X17_tell_279 : IOK WB AD SR FW TB md_X17_tell 279 (.aload 5, 0, 0, 0, []) := io_plain (by decide +kernel) rfl
theorem r_X17_tell_281 : IOK WB AD SR FW TB md_X17_tell 281 (.invokeinterface 271 1, 24, 0, 0, []) := io_face (by decide +kernel) tb_Jx4a65c_size_8abf5 (List.mem_of_getElem? (i := 0) rfl) (wb_8 32 rfl rfl) in_Jx4a65c_size_8abf5 (wb_8 35 rfl rfl) rfl rfl rfl pr_Jx4a65c_size_8abf5 (by decide)
theorem r_X17_tell_286 : IOK WB AD SR FW TB md_X17_tell 286 (.iconst 1, 0, 0, 0, []) := io_plain (by decide +kernel) rfl
theorem r_X17_tell_287 : IOK WB AD SR FW TB md_X17_tell 287 (.isub, 0, 0, 0, []) := io_plain (by decide +kernel) rfl
theorem r_X17_tell_288 : IOK WB AD SR FW TB md_X17_tell 288 (.ireturn, 0, 0, 0, []) := io_plain (by decide +kernel) rfl
set_option maxRecDepth 100000 in
theorem ok_X17_tell_0 : ∀ q ∈ tl_X17_tell_0, IOK WB AD SR FW TB md_X17_tell q.1 q.2 := List.forall_mem_cons.mpr ⟨r_X17_tell_0, List.forall_mem_cons.mpr ⟨r_X17_tell_1, List.forall_mem_cons.mpr ⟨r_X17_tell_8, List.forall_mem_cons.mpr ⟨r_X17_tell_9, List.forall_mem_cons.mpr ⟨r_X17_tell_10, List.forall_mem_cons.mpr ⟨r_X17_tell_11, List.forall_mem_cons.mpr ⟨r_X17_tell_14, List.forall_mem_cons.mpr ⟨r_X17_tell_19, List.forall_mem_cons.mpr ⟨r_X17_tell_20, List.forall_mem_cons.mpr ⟨r_X17_tell_21, List.forall_mem_cons.mpr ⟨r_X17_tell_23, List.forall_mem_cons.mpr ⟨r_X17_tell_24, List.forall_mem_cons.mpr ⟨r_X17_tell_34, List.forall_mem_cons.mpr ⟨r_X17_tell_35, List.forall_mem_cons.mpr ⟨r_X17_tell_38, List.forall_mem_cons.mpr ⟨r_X17_tell_40, List.forall_mem_cons.mpr ⟨r_X17_tell_41, List.forall_mem_cons.mpr ⟨r_X17_tell_43, List.forall_mem_cons.mpr ⟨r_X17_tell_46, List.forall_mem_cons.mpr ⟨r_X17_tell_48, List.forall_mem_cons.mpr ⟨r_X17_tell_53, List.forall_mem_cons.mpr ⟨r_X17_tell_54, List.forall_mem_cons.mpr ⟨r_X17_tell_62, List.forall_mem_cons.mpr ⟨r_X17_tell_64, List.forall_mem_cons.mpr ⟨r_X17_tell_71, List.forall_mem_cons.mpr ⟨r_X17_tell_72, List.forall_mem_cons.mpr ⟨r_X17_tell_75, List.forall_mem_cons.mpr ⟨r_X17_tell_76, List.forall_mem_cons.mpr ⟨r_X17_tell_79, List.forall_mem_cons.mpr ⟨r_X17_tell_84, List.forall_mem_cons.mpr ⟨r_X17_tell_87, List.forall_mem_cons.mpr ⟨r_X17_tell_88, List.forall_mem_cons.mpr ⟨r_X17_tell_91, List.forall_mem_cons.mpr ⟨r_X17_tell_93, List.forall_mem_cons.mpr ⟨r_X17_tell_95, List.forall_mem_cons.mpr ⟨r_X17_tell_96, List.forall_mem_cons.mpr ⟨r_X17_tell_99, List.forall_mem_cons.mpr ⟨r_X17_tell_101, List.forall_mem_cons.mpr ⟨r_X17_tell_106, List.forall_mem_cons.mpr ⟨r_X17_tell_109, fun _ h => absurd h List.not_mem_nil⟩⟩⟩⟩⟩⟩⟩⟩⟩⟩⟩⟩⟩⟩⟩⟩⟩⟩⟩⟩⟩⟩⟩⟩⟩⟩⟩⟩⟩⟩⟩⟩⟩⟩⟩⟩⟩⟩⟩⟩
set_option maxRecDepth 100000 in
theorem tq_X17_tell_0 : tf_X17_tell_0 = tl_X17_tell_0.map (fun q => (q.1, stepOf NPf md_X17_tell q.2)) := rfl
set_option maxRecDepth 100000 in
theorem ok_X17_tell_1 : ∀ q ∈ tl_X17_tell_1, IOK WB AD SR FW TB md_X17_tell q.1 q.2 := List.forall_mem_cons.mpr ⟨r_X17_tell_112, List.forall_mem_cons.mpr ⟨r_X17_tell_114, List.forall_mem_cons.mpr ⟨r_X17_tell_115, List.forall_mem_cons.mpr ⟨r_X17_tell_118, List.forall_mem_cons.mpr ⟨r_X17_tell_120, List.forall_mem_cons.mpr ⟨r_X17_tell_121, List.forall_mem_cons.mpr ⟨r_X17_tell_122, List.forall_mem_cons.mpr ⟨r_X17_tell_127, List.forall_mem_cons.mpr ⟨r_X17_tell_130, List.forall_mem_cons.mpr ⟨r_X17_tell_133, List.forall_mem_cons.mpr ⟨r_X17_tell_135, List.forall_mem_cons.mpr ⟨r_X17_tell_136, List.forall_mem_cons.mpr ⟨r_X17_tell_158, List.forall_mem_cons.mpr ⟨r_X17_tell_159, List.forall_mem_cons.mpr ⟨r_X17_tell_162, List.forall_mem_cons.mpr ⟨r_X17_tell_164, List.forall_mem_cons.mpr ⟨r_X17_tell_165, List.forall_mem_cons.mpr ⟨r_X17_tell_187, List.forall_mem_cons.mpr ⟨r_X17_tell_188, List.forall_mem_cons.mpr ⟨r_X17_tell_191, List.forall_mem_cons.mpr ⟨r_X17_tell_192, List.forall_mem_cons.mpr ⟨r_X17_tell_194, List.forall_mem_cons.mpr ⟨r_X17_tell_197, List.forall_mem_cons.mpr ⟨r_X17_tell_199, List.forall_mem_cons.mpr ⟨r_X17_tell_202, List.forall_mem_cons.mpr ⟨r_X17_tell_205, List.forall_mem_cons.mpr ⟨r_X17_tell_208, List.forall_mem_cons.mpr ⟨r_X17_tell_209, List.forall_mem_cons.mpr ⟨r_X17_tell_213, List.forall_mem_cons.mpr ⟨r_X17_tell_216, List.forall_mem_cons.mpr ⟨r_X17_tell_217, List.forall_mem_cons.mpr ⟨r_X17_tell_220, List.forall_mem_cons.mpr ⟨r_X17_tell_225, List.forall_mem_cons.mpr ⟨r_X17_tell_226, List.forall_mem_cons.mpr ⟨r_X17_tell_228, List.forall_mem_cons.mpr ⟨r_X17_tell_230, List.forall_mem_cons.mpr ⟨r_X17_tell_231, List.forall_mem_cons.mpr ⟨r_X17_tell_234, List.forall_mem_cons.mpr ⟨r_X17_tell_235, List.forall_mem_cons.mpr ⟨r_X17_tell_238, fun _ h => absurd h List.not_mem_nil⟩⟩⟩⟩⟩⟩⟩⟩⟩⟩⟩⟩⟩⟩⟩⟩⟩⟩⟩⟩⟩⟩⟩⟩⟩⟩⟩⟩⟩⟩⟩⟩⟩⟩⟩⟩⟩⟩⟩⟩
set_option maxRecDepth 100000 in
theorem tq_X17_tell_1 : tf_X17_tell_1 = tl_X17_tell_1.map (fun q => (q.1, stepOf NPf md_X17_tell q.2)) := rfl
set_option maxRecDepth 100000 in
theorem ok_X17_tell_2 : ∀ q ∈ tl_X17_tell_2, IOK WB AD SR FW TB md_X17_tell q.1 q.2 := List.forall_mem_cons.mpr ⟨r_X17_tell_239, List.forall_mem_cons.mpr ⟨r_X17_tell_242, List.forall_mem_cons.mpr ⟨r_X17_tell_245, List.forall_mem_cons.mpr ⟨r_X17_tell_247, List.forall_mem_cons.mpr ⟨r_X17_tell_249, List.forall_mem_cons.mpr ⟨r_X17_tell_254, List.forall_mem_cons.mpr ⟨r_X17_tell_255, List.forall_mem_cons.mpr ⟨r_X17_tell_256, List.forall_mem_cons.mpr ⟨r_X17_tell_257, List.forall_mem_cons.mpr ⟨r_X17_tell_260, List.forall_mem_cons.mpr ⟨r_X17_tell_263, List.forall_mem_cons.mpr ⟨r_X17_tell_264, List.forall_mem_cons.mpr ⟨r_X17_tell_275, List.forall_mem_cons.mpr ⟨r_X17_tell_276, List.forall_mem_cons.mpr ⟨r_X17_tell_279, List.forall_mem_cons.mpr ⟨r_X17_tell_281, List.forall_mem_cons.mpr ⟨r_X17_tell_286, List.forall_mem_cons.mpr ⟨r_X17_tell_287, List.forall_mem_cons.mpr ⟨r_X17_tell_288, fun _ h => absurd h List.not_mem_nil⟩⟩⟩⟩⟩⟩⟩⟩⟩⟩⟩⟩⟩⟩⟩⟩⟩⟩⟩
set_option maxRecDepth 100000 in
theorem tq_X17_tell_2 : tf_X17_tell_2 = tl_X17_tell_2.map (fun q => (q.1, stepOf NPf md_X17_tell q.2)) := rfl
theorem ro_X17_tell : RowsOK (md_X17_tell, tl_X17_tell) tf_X17_tell := rows_app ⟨tq_X17_tell_0, ok_X17_tell_0⟩ (rows_app ⟨tq_X17_tell_1, ok_X17_tell_1⟩ (⟨tq_X17_tell_2, ok_X17_tell_2⟩))
theorem r_X10_init_0 : IOK WB AD SR FW TB md_X10_init 0 (.aload_n 0, 0, 0, 0, []) := io_plain (by decide +kernel) rfl
theorem r_X10_init_1 : IOK WB AD SR FW TB md_X10_init 1 (.invokespecial 3, 1000, 0, 0, []) := io_obj (by decide +kernel) (wb_1 40 rfl rfl) ob_1 ob_2
theorem r_X10_init_4 : IOK WB AD SR FW TB md_X10_init 4 (.aload_n 0, 0, 0, 0, []) := io_plain (by decide +kernel) rfl
theorem r_X10_init_5 : IOK WB AD SR FW TB md_X10_init 5 (.new 9, 8, 0, 0, [0, 0, 2, 2, 2, 2, 2, 2, 2, 2, 2]) := io_new (by decide +kernel) rfl no_RX10_9
theorem r_X10_init_8 : IOK WB AD SR FW TB md_X10_init 8 (.dup, 0, 0, 0, []) := io_plain (by decide +kernel) rfl
theorem r_X10_init_9 : IOK WB AD SR FW TB md_X10_init 9 (.invokespecial 11, 76, 8, 0, []) := io_spec (by decide +kernel) tb_X7_init (Or.inl (wb_1 45 rfl rfl)) in_X7_init rfl rfl rfl pr_X7_init (by decide)
theorem r_X10_init_12 : IOK WB AD SR FW TB md_X10_init 12 (.putfield 12, 11, 0, 2, []) := io_put (by decide +kernel) fo_RX10_12 po_RX10_1_11_0_2
theorem r_X10_init_15 : IOK WB AD SR FW TB md_X10_init 15 (.aload_n 0, 0, 0, 0, []) := io_plain (by decide +kernel) rfl
theorem r_X10_init_16 : IOK WB AD SR FW TB md_X10_init 16 (.new 16, 9, 0, 0, [2, 2, 0, 2, 0, 2, 2, 2, 0, 0, 1]) := io_new (by decide +kernel) rfl no_RX10_16
theorem r_X10_init_19 : IOK WB AD SR FW TB md_X10_init 19 (.dup, 0, 0, 0, []) := io_plain (by decide +kernel) rfl
theorem r_X10_init_20 : IOK WB AD SR FW TB md_X10_init 20 (.aload_n 0, 0, 0, 0, []) := io_plain (by decide +kernel) rfl
theorem r_X10_init_21 : IOK WB AD SR FW TB md_X10_init 21 (.getfield 12, 11, 0, 2, []) := io_get (by decide +kernel) fo_RX10_12
theorem r_X10_init_24 : IOK WB AD SR FW TB md_X10_init 24 (.invokespecial 18, 71, 9, 0, []) := io_spec (by decide +kernel) tb_X8_init (Or.inl (wb_1 111 rfl rfl)) in_X8_init rfl rfl rfl pr_X8_init (by decide)
theorem r_X10_init_27 : IOK WB AD SR FW TB md_X10_init 27 (.putfield 21, 11, 1, 2, []) := io_put (by decide +kernel) fo_RX10_21 po_RX10_1_11_1_2
theorem r_X10_init_30 : IOK WB AD SR FW TB md_X10_init 30 (.aload_n 0, 0, 0, 0, []) := io_plain (by decide +kernel) rfl
theorem r_X10_init_31 : IOK WB AD SR FW TB md_X10_init 31 (.new 25, 3, 0, 0, [2, 2, 0, 0, 2]) := io_new (by decide +kernel) rfl no_RX10_25
theorem r_X10_init_34 : IOK WB AD SR FW TB md_X10_init 34 (.dup, 0, 0, 0, []) := io_plain (by decide +kernel) rfl
theorem r_X10_init_35 : IOK WB AD SR FW TB md_X10_init 35 (.aload_n 0, 0, 0, 0, []) := io_plain (by decide +kernel) rfl
theorem r_X10_init_36 : IOK WB AD SR FW TB md_X10_init 36 (.getfield 21, 11, 1, 2, []) := io_get (by decide +kernel) fo_RX10_21
theorem r_X10_init_39 : IOK WB AD SR FW TB md_X10_init 39 (.invokespecial 27, 99, 3, 0, []) := io_spec (by decide +kernel) tb_X2_init (Or.inl (wb_1 176 rfl rfl)) in_X2_init rfl rfl rfl pr_X2_init (by decide)
theorem r_X10_init_42 : IOK WB AD SR FW TB md_X10_init 42 (.putfield 30, 11, 2, 2, []) := io_put (by decide +kernel) fo_RX10_30 po_RX10_1_11_2_2
theorem r_X10_init_45 : IOK WB AD SR FW TB md_X10_init 45 (.aload_n 0, 0, 0, 0, []) := io_plain (by decide +kernel) rfl
theorem r_X10_init_46 : IOK WB AD SR FW TB md_X10_init 46 (.new 34, 4, 0, 0, [2, 2, 2, 2, 2, 0, 2, 2, 2, 2, 2, 2, 0, 0, 0, 0]) := io_new (by decide +kernel) rfl no_RX10_34
theorem r_X10_init_49 : IOK WB AD SR FW TB md_X10_init 49 (.dup, 0, 0, 0, []) := io_plain (by decide +kernel) rfl
theorem r_X10_init_50 : IOK WB AD SR FW TB md_X10_init 50 (.aload_n 0, 0, 0, 0, []) := io_plain (by decide +kernel) rfl
theorem r_X10_init_51 : IOK WB AD SR FW TB md_X10_init 51 (.getfield 21, 11, 1, 2, []) := io_get (by decide +kernel) fo_RX10_21
theorem r_X10_init_54 : IOK WB AD SR FW TB md_X10_init 54 (.invokespecial 36, 83, 4, 0, []) := io_spec (by decide +kernel) tb_X3_init (Or.inl (wb_1 208 rfl rfl)) in_X3_init rfl rfl rfl pr_X3_init (by decide)
theorem r_X10_init_57 : IOK WB AD SR FW TB md_X10_init 57 (.putfield 37, 11, 3, 2, []) := io_put (by decide +kernel) fo_RX10_37 po_RX10_1_11_3_2
theorem r_X10_init_60 : IOK WB AD SR FW TB md_X10_init 60 (.aload_n 0, 0, 0, 0, []) := io_plain (by decide +kernel) rfl
theorem r_X10_init_61 : IOK WB AD SR FW TB md_X10_init 61 (.new 41, 7, 0, 0, [2, 2, 2, 0, 0, 2, 2, 2, 2, 2]) := io_new (by decide +kernel) rfl no_RX10_41
theorem r_X10_init_64 : IOK WB AD SR FW TB md_X10_init 64 (.dup, 0, 0, 0, []) := io_plain (by decide +kernel) rfl
theorem r_X10_init_65 : IOK WB AD SR FW TB md_X10_init 65 (.aload_n 0, 0, 0, 0, []) := io_plain (by decide +kernel) rfl
theorem r_X10_init_66 : IOK WB AD SR FW TB md_X10_init 66 (.getfield 30, 11, 2, 2, []) := io_get (by decide +kernel) fo_RX10_30
theorem r_X10_init_69 : IOK WB AD SR FW TB md_X10_init 69 (.aload_n 0, 0, 0, 0, []) := io_plain (by decide +kernel) rfl
theorem r_X10_init_70 : IOK WB AD SR FW TB md_X10_init 70 (.getfield 37, 11, 3, 2, []) := io_get (by decide +kernel) fo_RX10_37
theorem r_X10_init_73 : IOK WB AD SR FW TB md_X10_init 73 (.invokespecial 43, 89, 7, 0, []) := io_spec (by decide +kernel) tb_X6_init (Or.inl (wb_2 91 rfl rfl)) in_X6_init rfl rfl rfl pr_X6_init (by decide)
theorem r_X10_init_76 : IOK WB AD SR FW TB md_X10_init 76 (.putfield 46, 11, 4, 2, []) := io_put (by decide +kernel) fo_RX10_46 po_RX10_1_11_4_2
theorem r_X10_init_79 : IOK WB AD SR FW TB md_X10_init 79 (.new 50, 10, 0, 0, [2, 2, 2, 2, 0, 0, 0, 0, 0, 0, 0, 0, 0, 0, 0]) := io_new (by decide +kernel) rfl no_RX10_50
theorem r_X10_init_82 : IOK WB AD SR FW TB md_X10_init 82 (.dup, 0, 0, 0, []) := io_plain (by decide +kernel) rfl
theorem r_X10_init_83 : IOK WB AD SR FW TB md_X10_init 83 (.aload_n 0, 0, 0, 0, []) := io_plain (by decide +kernel) rfl
theorem r_X10_init_84 : IOK WB AD SR FW TB md_X10_init 84 (.getfield 46, 11, 4, 2, []) := io_get (by decide +kernel) fo_RX10_46
theorem r_X10_init_87 : IOK WB AD SR FW TB md_X10_init 87 (.invokespecial 52, 96, 10, 0, []) := io_spec (by decide +kernel) tb_X9_init (Or.inl (wb_2 137 rfl rfl)) in_X9_init rfl rfl rfl pr_X9_init (by decide)
theorem r_X10_init_90 : IOK WB AD SR FW TB md_X10_init 90 (.astore_n 1, 0, 0, 0, []) := io_plain (by decide +kernel) rfl
theorem r_X10_init_91 : IOK WB AD SR FW TB md_X10_init 91 (.aload_n 0, 0, 0, 0, []) := io_plain (by decide +kernel) rfl
theorem r_X10_init_92 : IOK WB AD SR FW TB md_X10_init 92 (.new 55, 2, 0, 0, [2, 2, 0, 1, 2, 2, 2, 0, 0]) := io_new (by decide +kernel) rfl no_RX10_55
theorem r_X10_init_95 : IOK WB AD SR FW TB md_X10_init 95 (.dup, 0, 0, 0, []) := io_plain (by decide +kernel) rfl
theorem r_X10_init_96 : IOK WB AD SR FW TB md_X10_init 96 (.aload_n 1, 0, 0, 0, []) := io_plain (by decide +kernel) rfl
theorem r_X10_init_97 : IOK WB AD SR FW TB md_X10_init 97 (.invokespecial 57, 92, 2, 0, []) := io_spec (by decide +kernel) tb_X1_init (Or.inl (wb_2 197 rfl rfl)) in_X1_init rfl rfl rfl pr_X1_init (by decide)
theorem r_X10_init_100 : IOK WB AD SR FW TB md_X10_init 100 (.putfield 60, 11, 5, 2, []) := io_put (by decide +kernel) fo_RX10_60 po_RX10_1_11_5_2
theorem r_X10_init_103 : IOK WB AD SR FW TB md_X10_init 103 (.aload_n 0, 0, 0, 0, []) := io_plain (by decide +kernel) rfl
theorem r_X10_init_104 : IOK WB AD SR FW TB md_X10_init 104 (.new 64, 6, 0, 0, [2, 2, 0, 0, 2, 2, 2, 0, 0]) := io_new (by decide +kernel) rfl no_RX10_64
theorem r_X10_init_107 : IOK WB AD SR FW TB md_X10_init 107 (.dup, 0, 0, 0, []) := io_plain (by decide +kernel) rfl
theorem r_X10_init_108 : IOK WB AD SR FW TB md_X10_init 108 (.aload_n 1, 0, 0, 0, []) := io_plain (by decide +kernel) rfl
theorem r_X10_init_109 : IOK WB AD SR FW TB md_X10_init 109 (.invokespecial 66, 93, 6, 0, []) := io_spec (by decide +kernel) tb_X5_init (Or.inl (wb_2 235 rfl rfl)) in_X5_init rfl rfl rfl pr_X5_init (by decide)
theorem r_X10_init_112 : IOK WB AD SR FW TB md_X10_init 112 (.putfield 67, 11, 6, 2, []) := io_put (by decide +kernel) fo_RX10_67 po_RX10_1_11_6_2
theorem r_X10_init_115 : IOK WB AD SR FW TB md_X10_init 115 (.aload_n 0, 0, 0, 0, []) := io_plain (by decide +kernel) rfl
theorem r_X10_init_116 : IOK WB AD SR FW TB md_X10_init 116 (.new 71, 1, 0, 0, [2, 2, 2, 2, 0, 2, 2, 2, 0, 2, 0, 0, 0, 2]) := io_new (by decide +kernel) rfl no_RX10_71
theorem r_X10_init_119 : IOK WB AD SR FW TB md_X10_init 119 (.dup, 0, 0, 0, []) := io_plain (by decide +kernel) rfl
theorem r_X10_init_120 : IOK WB AD SR FW TB md_X10_init 120 (.aload_n 0, 0, 0, 0, []) := io_plain (by decide +kernel) rfl
theorem r_X10_init_121 : IOK WB AD SR FW TB md_X10_init 121 (.getfield 46, 11, 4, 2, []) := io_get (by decide +kernel) fo_RX10_46
theorem r_X10_init_124 : IOK WB AD SR FW TB md_X10_init 124 (.invokespecial 73, 85, 1, 0, []) := io_spec (by decide +kernel) tb_X0_init (Or.inl (wb_3 31 rfl rfl)) in_X0_init rfl rfl rfl pr_X0_init (by decide)
theorem r_X10_init_127 : IOK WB AD SR FW TB md_X10_init 127 (.putfield 74, 11, 7, 2, []) := io_put (by decide +kernel) fo_RX10_74 po_RX10_1_11_7_2
theorem r_X10_init_130 : IOK WB AD SR FW TB md_X10_init 130 (.return_, 0, 0, 0, []) := io_void (by decide +kernel) rfl
set_option maxRecDepth 100000 in
theorem ok_X10_init_0 : ∀ q ∈ tl_X10_init_0, IOK WB AD SR FW TB md_X10_init q.1 q.2 := List.forall_mem_cons.mpr ⟨r_X10_init_0, List.forall_mem_cons.mpr ⟨r_X10_init_1, List.forall_mem_cons.mpr ⟨r_X10_init_4, List.forall_mem_cons.mpr ⟨r_X10_init_5, List.forall_mem_cons.mpr ⟨r_X10_init_8, List.forall_mem_cons.mpr ⟨r_X10_init_9, List.forall_mem_cons.mpr ⟨r_X10_init_12, List.forall_mem_cons.mpr ⟨r_X10_init_15, List.forall_mem_cons.mpr ⟨r_X10_init_16, List.forall_mem_cons.mpr ⟨r_X10_init_19, List.forall_mem_cons.mpr ⟨r_X10_init_20, List.forall_mem_cons.mpr ⟨r_X10_init_21, List.forall_mem_cons.mpr ⟨r_X10_init_24, List.forall_mem_cons.mpr ⟨r_X10_init_27, List.forall_mem_cons.mpr ⟨r_X10_init_30, List.forall_mem_cons.mpr ⟨r_X10_init_31, List.forall_mem_cons.mpr ⟨r_X10_init_34, List.forall_mem_cons.mpr ⟨r_X10_init_35, List.forall_mem_cons.mpr ⟨r_X10_init_36, List.forall_mem_cons.mpr ⟨r_X10_init_39, List.forall_mem_cons.mpr ⟨r_X10_init_42, List.forall_mem_cons.mpr ⟨r_X10_init_45, List.forall_mem_cons.mpr ⟨r_X10_init_46, List.forall_mem_cons.mpr ⟨r_X10_init_49, List.forall_mem_cons.mpr ⟨r_X10_init_50, List.forall_mem_cons.mpr ⟨r_X10_init_51, List.forall_mem_cons.mpr ⟨r_X10_init_54, List.forall_mem_cons.mpr ⟨r_X10_init_57, List.forall_mem_cons.mpr ⟨r_X10_init_60, List.forall_mem_cons.mpr ⟨r_X10_init_61, List.forall_mem_cons.mpr ⟨r_X10_init_64, List.forall_mem_cons.mpr ⟨r_X10_init_65, List.forall_mem_cons.mpr ⟨r_X10_init_66, List.forall_mem_cons.mpr ⟨r_X10_init_69, List.forall_mem_cons.mpr ⟨r_X10_init_70, List.forall_mem_cons.mpr ⟨r_X10_init_73, List.forall_mem_cons.mpr ⟨r_X10_init_76, List.forall_mem_cons.mpr ⟨r_X10_init_79, List.forall_mem_cons.mpr ⟨r_X10_init_82, List.forall_mem_cons.mpr ⟨r_X10_init_83, fun _ h => absurd h List.not_mem_nil⟩⟩⟩⟩⟩⟩⟩⟩⟩⟩⟩⟩⟩⟩⟩⟩⟩⟩⟩⟩⟩⟩⟩⟩⟩⟩⟩⟩⟩⟩⟩⟩⟩⟩⟩⟩⟩⟩⟩⟩
set_option maxRecDepth 100000 in
theorem tq_X10_init_0 : tf_X10_init_0 = tl_X10_init_0.map (fun q => (q.1, stepOf NPf md_X10_init q.2)) := rfl
set_option maxRecDepth 100000 in
theorem ok_X10_init_1 : ∀ q ∈ tl_X10_init_1, IOK WB AD SR FW TB md_X10_init q.1 q.2 := List.forall_mem_cons.mpr ⟨r_X10_init_84, List.forall_mem_cons.mpr ⟨r_X10_init_87, List.forall_mem_cons.mpr ⟨r_X10_init_90, List.forall_mem_cons.mpr ⟨r_X10_init_91, List.forall_mem_cons.mpr ⟨r_X10_init_92, List.forall_mem_cons.mpr ⟨r_X10_init_95, List.forall_mem_cons.mpr ⟨r_X10_init_96, List.forall_mem_cons.mpr ⟨r_X10_init_97, List.forall_mem_cons.mpr ⟨r_X10_init_100, List.forall_mem_cons.mpr ⟨r_X10_init_103, List.forall_mem_cons.mpr ⟨r_X10_init_104, List.forall_mem_cons.mpr ⟨r_X10_init_107, List.forall_mem_cons.mpr ⟨r_X10_init_108, List.forall_mem_cons.mpr ⟨r_X10_init_109, List.forall_mem_cons.mpr ⟨r_X10_init_112, List.forall_mem_cons.mpr ⟨r_X10_init_115, List.forall_mem_cons.mpr ⟨r_X10_init_116, List.forall_mem_cons.mpr ⟨r_X10_init_119, List.forall_mem_cons.mpr ⟨r_X10_init_120, List.forall_mem_cons.mpr ⟨r_X10_init_121, List.forall_mem_cons.mpr ⟨r_X10_init_124, List.forall_mem_cons.mpr ⟨r_X10_init_127, List.forall_mem_cons.mpr ⟨r_X10_init_130, fun _ h => absurd h List.not_mem_nil⟩⟩⟩⟩⟩⟩⟩⟩⟩⟩⟩⟩⟩⟩⟩⟩⟩⟩⟩⟩⟩⟩⟩
set_option maxRecDepth 100000 in
theorem tq_X10_init_1 : tf_X10_init_1 = tl_X10_init_1.map (fun q => (q.1, stepOf NPf md_X10_init q.2)) := rfl
theorem ro_X10_init : RowsOK (md_X10_init, tl_X10_init) tf_X10_init := rows_app ⟨tq_X10_init_0, ok_X10_init_0⟩ (⟨tq_X10_init_1, ok_X10_init_1⟩)
theorem r_X7_addOperator_0 : IOK WB AD SR FW TB md_X7_addOperator 0 (.aload_n 0, 0, 0, 0, []) := io_plain (by decide +kernel) rfl
theorem r_X7_addOperator_1 : IOK WB AD SR FW TB md_X7_addOperator 1 (.getfield 49, 8, 1, 0, []) := io_get (by decide +kernel) fo_RX7_49
theorem r_X7_addOperator_4 : IOK WB AD SR FW TB md_X7_addOperator 4 (.istore 4, 0, 0, 0, []) := io_plain (by decide +kernel) rfl
theorem r_X7_addOperator_6 : IOK WB AD SR FW TB md_X7_addOperator 6 (.aload_n 0, 0, 0, 0, []) := io_plain (by decide +kernel) rfl
theorem r_X7_addOperator_7 : IOK WB AD SR FW TB md_X7_addOperator 7 (.getfield 18, 8, 4, 2, []) := io_get (by decide +kernel) fo_RX7_18
theorem r_X7_addOperator_10 : IOK WB AD SR FW TB md_X7_addOperator 10 (.iload 4, 0, 0, 0, []) := io_plain (by decide +kernel) rfl
theorem r_X7_addOperator_12 : IOK WB AD SR FW TB md_X7_addOperator 12 (.iload_n 1, 0, 0, 0, []) := io_plain (by decide +kernel) rfl
theorem r_X7_addOperator_13 : IOK WB AD SR FW TB md_X7_addOperator 13 (.iastore, 0, 0, 0, []) := io_plain (by decide +kernel) rfl
theorem r_X7_addOperator_14 : IOK WB AD SR FW TB md_X7_addOperator 14 (.aload_n 0, 0, 0, 0, []) := io_plain (by decide +kernel) rfl
theorem r_X7_addOperator_15 : IOK WB AD SR FW TB md_X7_addOperator 15 (.getfield 21, 8, 5, 2, []) := io_get (by decide +kernel) fo_RX7_21
theorem r_X7_addOperator_18 : IOK WB AD SR FW TB md_X7_addOperator 18 (.iload 4, 0, 0, 0, []) := io_plain (by decide +kernel) rfl
theorem r_X7_addOperator_20 : IOK WB AD SR FW TB md_X7_addOperator 20 (.iload_n 2, 0, 0, 0, []) := io_plain (by decide +kernel) rfl
theorem r_X7_addOperator_21 : IOK WB AD SR FW TB md_X7_addOperator 21 (.iastore, 0, 0, 0, []) := io_plain (by decide +kernel) rfl
theorem r_X7_addOperator_22 : IOK WB AD SR FW TB md_X7_addOperator 22 (.aload_n 0, 0, 0, 0, []) := io_plain (by decide +kernel) rfl
theorem r_X7_addOperator_23 : IOK WB AD SR FW TB md_X7_addOperator 23 (.getfield 24, 8, 6, 2, []) := io_get (by decide +kernel) fo_RX7_24
theorem r_X7_addOperator_26 : IOK WB AD SR FW TB md_X7_addOperator 26 (.iload 4, 0, 0, 0, []) := io_plain (by decide +kernel) rfl
theorem r_X7_addOperator_28 : IOK WB AD SR FW TB md_X7_addOperator 28 (.iload_n 3, 0, 0, 0, []) := io_plain (by decide +kernel) rfl
theorem r_X7_addOperator_29 : IOK WB AD SR FW TB md_X7_addOperator 29 (.iastore, 0, 0, 0, []) := io_plain (by decide +kernel) rfl
theorem r_X7_addOperator_30 : IOK WB AD SR FW TB md_X7_addOperator 30 (.aload_n 0, 0, 0, 0, []) := io_plain (by decide +kernel) rfl
theorem r_X7_addOperator_31 : IOK WB AD SR FW TB md_X7_addOperator 31 (.getfield 36, 8, 10, 2, []) := io_get (by decide +kernel) fo_RX7_36
theorem r_X7_addOperator_34 : IOK WB AD SR FW TB md_X7_addOperator 34 (.iload 4, 0, 0, 0, []) := io_plain (by decide +kernel) rfl
theorem r_X7_addOperator_36 : IOK WB AD SR FW TB md_X7_addOperator 36 (.iload 4, 0, 0, 0, []) := io_plain (by decide +kernel) rfl
theorem r_X7_addOperator_38 : IOK WB AD SR FW TB md_X7_addOperator 38 (.iastore, 0, 0, 0, []) := io_plain (by decide +kernel) rfl
theorem r_X7_addOperator_39 : IOK WB AD SR FW TB md_X7_addOperator 39 (.aload_n 0, 0, 0, 0, []) := io_plain (by decide +kernel) rfl
theorem r_X7_addOperator_40 : IOK WB AD SR FW TB md_X7_addOperator 40 (.dup, 0, 0, 0, []) := io_plain (by decide +kernel) rfl
theorem r_X7_addOperator_41 : IOK WB AD SR FW TB md_X7_addOperator 41 (.getfield 49, 8, 1, 0, []) := io_get (by decide +kernel) fo_RX7_49
theorem r_X7_addOperator_44 : IOK WB AD SR FW TB md_X7_addOperator 44 (.iconst 1, 0, 0, 0, []) := io_plain (by decide +kernel) rfl
theorem r_X7_addOperator_45 : IOK WB AD SR FW TB md_X7_addOperator 45 (.iadd, 0, 0, 0, []) := io_plain (by decide +kernel) rfl
theorem r_X7_addOperator_46 : IOK WB AD SR FW TB md_X7_addOperator 46 (.putfield 49, 8, 1, 0, []) := io_put (by decide +kernel) fo_RX7_49 po_RX7_0_8_1_0
theorem r_X7_addOperator_49 : IOK WB AD SR FW TB md_X7_addOperator 49 (.iload 4, 0, 0, 0, []) := io_plain (by decide +kernel) rfl
theorem r_X7_addOperator_51 : IOK WB AD SR FW TB md_X7_addOperator 51 (.ireturn, 0, 0, 0, []) := io_plain (by decide +kernel) rfl
set_option maxRecDepth 100000 in
theorem ok_X7_addOperator_0 : ∀ q ∈ tl_X7_addOperator, IOK WB AD SR FW TB md_X7_addOperator q.1 q.2 := List.forall_mem_cons.mpr ⟨r_X7_addOperator_0, List.forall_mem_cons.mpr ⟨r_X7_addOperator_1, List.forall_mem_cons.mpr ⟨r_X7_addOperator_4, List.forall_mem_cons.mpr ⟨r_X7_addOperator_6, List.forall_mem_cons.mpr ⟨r_X7_addOperator_7, List.forall_mem_cons.mpr ⟨r_X7_addOperator_10, List.forall_mem_cons.mpr ⟨r_X7_addOperator_12, List.forall_mem_cons.mpr ⟨r_X7_addOperator_13, List.forall_mem_cons.mpr ⟨r_X7_addOperator_14, List.forall_mem_cons.mpr ⟨r_X7_addOperator_15, List.forall_mem_cons.mpr ⟨r_X7_addOperator_18, List.forall_mem_cons.mpr ⟨r_X7_addOperator_20, List.forall_mem_cons.mpr ⟨r_X7_addOperator_21, List.forall_mem_cons.mpr ⟨r_X7_addOperator_22, List.forall_mem_cons.mpr ⟨r_X7_addOperator_23, List.forall_mem_cons.mpr ⟨r_X7_addOperator_26, List.forall_mem_cons.mpr ⟨r_X7_addOperator_28, List.forall_mem_cons.mpr ⟨r_X7_addOperator_29, List.forall_mem_cons.mpr ⟨r_X7_addOperator_30, List.forall_mem_cons.mpr ⟨r_X7_addOperator_31, List.forall_mem_cons.mpr ⟨r_X7_addOperator_34, List.forall_mem_cons.mpr ⟨r_X7_addOperator_36, List.forall_mem_cons.mpr ⟨r_X7_addOperator_38, List.forall_mem_cons.mpr ⟨r_X7_addOperator_39, List.forall_mem_cons.mpr ⟨r_X7_addOperator_40, List.forall_mem_cons.mpr ⟨r_X7_addOperator_41, List.forall_mem_cons.mpr ⟨r_X7_addOperator_44, List.forall_mem_cons.mpr ⟨r_X7_addOperator_45, List.forall_mem_cons.mpr ⟨r_X7_addOperator_46, List.forall_mem_cons.mpr ⟨r_X7_addOperator_49, List.forall_mem_cons.mpr ⟨r_X7_addOperator_51, fun _ h => absurd h List.not_mem_nil⟩⟩⟩⟩⟩⟩⟩⟩⟩⟩⟩⟩⟩⟩⟩⟩⟩⟩⟩⟩⟩⟩⟩⟩⟩⟩⟩⟩⟩⟩⟩
set_option maxRecDepth 100000 in
theorem tq_X7_addOperator_0 : tf_X7_addOperator = tl_X7_addOperator.map (fun q => (q.1, stepOf NPf md_X7_addOperator q.2)) := rfl
theorem ro_X7_addOperator : RowsOK (md_X7_addOperator, tl_X7_addOperator) tf_X7_addOperator := ⟨tq_X7_addOperator_0, ok_X7_addOperator_0⟩
theorem r_X10_operator_0 : IOK WB AD SR FW TB md_X10_operator 0 (.iload_n 3, 0, 0, 0, []) := io_plain (by decide +kernel) rfl
theorem r_X10_operator_1 : IOK WB AD SR FW TB md_X10_operator 1 (.iconst (-1), 0, 0, 0, []) := io_plain (by decide +kernel) rfl
theorem r_X10_operator_2 : IOK WB AD SR FW TB md_X10_operator 2 (.if_icmp .eq 24, 0, 0, 0, []) := io_plain (by decide +kernel) rfl
theorem r_X10_operator_26 : IOK WB AD SR FW TB md_X10_operator 26 (.iload_n 1, 0, 0, 0, []) := io_plain (by decide +kernel) rfl
theorem r_X10_operator_27 : IOK WB AD SR FW TB md_X10_operator 27 (.ifCond .lt 17, 0, 0, 0, []) := io_plain (by decide +kernel) rfl
theorem r_X10_operator_30 : IOK WB AD SR FW TB md_X10_operator 30 (.iload_n 1, 0, 0, 0, []) := io_plain (by decide +kernel) rfl
theorem r_X10_operator_31 : IOK WB AD SR FW TB md_X10_operator 31 (.iconst 3, 0, 0, 0, []) := io_plain (by decide +kernel) rfl
theorem r_X10_operator_32 : IOK WB AD SR FW TB md_X10_operator 32 (.if_icmp .gt 12, 0, 0, 0, []) := io_plain (by decide +kernel) rfl
theorem r_X10_operator_35 : IOK WB AD SR FW TB md_X10_operator 35 (.iload_n 2, 0, 0, 0, []) := io_plain (by decide +kernel) rfl
theorem r_X10_operator_36 : IOK WB AD SR FW TB md_X10_operator 36 (.ifCond .lt 8, 0, 0, 0, []) := io_plain (by decide +kernel) rfl
theorem r_X10_operator_39 : IOK WB AD SR FW TB md_X10_operator 39 (.iload_n 2, 0, 0, 0, []) := io_plain (by decide +kernel) rfl
theorem r_X10_operator_40 : IOK WB AD SR FW TB md_X10_operator 40 (.iconst 3, 0, 0, 0, []) := io_plain (by decide +kernel) rfl
theorem r_X10_operator_41 : IOK WB AD SR FW TB md_X10_operator 41 (.if_icmp .le 13, 0, 0, 0, []) := io_plain (by decide +kernel) rfl
theorem r_X10_operator_54 : IOK WB AD SR FW TB md_X10_operator 54 (.iload_n 2, 0, 0, 0, []) := io_plain (by decide +kernel) rfl
theorem r_X10_operator_55 : IOK WB AD SR FW TB md_X10_operator 55 (.ifCond .eq 18, 0, 0, 0, []) := io_plain (by decide +kernel) rfl
theorem r_X10_operator_73 : IOK WB AD SR FW TB md_X10_operator 73 (.iload_n 3, 0, 0, 0, []) := io_plain (by decide +kernel) rfl
theorem r_X10_operator_74 : IOK WB AD SR FW TB md_X10_operator 74 (.iconst (-1), 0, 0, 0, []) := io_plain (by decide +kernel) rfl
theorem r_X10_operator_75 : IOK WB AD SR FW TB md_X10_operator 75 (.if_icmp .eq 30, 0, 0, 0, []) := io_plain (by decide +kernel) rfl
theorem r_X10_operator_105 : IOK WB AD SR FW TB md_X10_operator 105 (.aload_n 0, 0, 0, 0, []) := io_plain (by decide +kernel) rfl
theorem r_X10_operator_106 : IOK WB AD SR FW TB md_X10_operator 106 (.getfield 12, 11, 0, 2, []) := io_get (by decide +kernel) fo_RX10_12
theorem r_X10_operator_109 : IOK WB AD SR FW TB md_X10_operator 109 (.getfield 140, 8, 1, 0, []) := io_get (by decide +kernel) fo_RX10_140
theorem r_X10_operator_112 : IOK WB AD SR FW TB md_X10_operator 112 (.bipush 16, 0, 0, 0, []) := io_plain (by decide +kernel) rfl
theorem r_X10_operator_114 : IOK WB AD SR FW TB md_X10_operator 114 (.if_icmp .lt 13, 0, 0, 0, []) := io_plain (by decide +kernel) rfl
theorem r_X10_operator_127 : IOK WB AD SR FW TB md_X10_operator 127 (.aload_n 0, 0, 0, 0, []) := io_plain (by decide +kernel) rfl
theorem r_X10_operator_128 : IOK WB AD SR FW TB md_X10_operator 128 (.getfield 12, 11, 0, 2, []) := io_get (by decide +kernel) fo_RX10_12
theorem r_X10_operator_131 : IOK WB AD SR FW TB md_X10_operator 131 (.iload_n 1, 0, 0, 0, []) := io_plain (by decide +kernel) rfl
theorem r_X10_operator_132 : IOK WB AD SR FW TB md_X10_operator 132 (.iload_n 2, 0, 0, 0, []) := io_plain (by decide +kernel) rfl
theorem r_X10_operator_133 : IOK WB AD SR FW TB md_X10_operator 133 (.iload_n 3, 0, 0, 0, []) := io_plain (by decide +kernel) rfl
theorem r_X10_operator_134 : IOK WB AD SR FW TB md_X10_operator 134 (.invokevirtual 145, 80, 8, 0, []) := io_virt (by decide +kernel) tb_X7_addOperator (Or.inl (wb_5 100 rfl rfl)) in_X7_addOperator se_X7_addOperator ⟨_, rfl, rfl⟩ pr_X7_addOperator (by decide)
theorem r_X10_operator_137 : IOK WB AD SR FW TB md_X10_operator 137 (.ireturn, 0, 0, 0, []) := io_plain (by decide +kernel) rfl
set_option maxRecDepth 100000 in
theorem ok_X10_operator_0 : ∀ q ∈ tl_X10_operator, IOK WB AD SR FW TB md_X10_operator q.1 q.2 := List.forall_mem_cons.mpr ⟨r_X10_operator_0, List.forall_mem_cons.mpr ⟨r_X10_operator_1, List.forall_mem_cons.mpr ⟨r_X10_operator_2, List.forall_mem_cons.mpr ⟨r_X10_operator_26, List.forall_mem_cons.mpr ⟨r_X10_operator_27, List.forall_mem_cons.mpr ⟨r_X10_operator_30, List.forall_mem_cons.mpr ⟨r_X10_operator_31, List.forall_mem_cons.mpr ⟨r_X10_operator_32, List.forall_mem_cons.mpr ⟨r_X10_operator_35, List.forall_mem_cons.mpr ⟨r_X10_operator_36, List.forall_mem_cons.mpr ⟨r_X10_operator_39, List.forall_mem_cons.mpr ⟨r_X10_operator_40, List.forall_mem_cons.mpr ⟨r_X10_operator_41, List.forall_mem_cons.mpr ⟨r_X10_operator_54, List.forall_mem_cons.mpr ⟨r_X10_operator_55, List.forall_mem_cons.mpr ⟨r_X10_operator_73, List.forall_mem_cons.mpr ⟨r_X10_operator_74, List.forall_mem_cons.mpr ⟨r_X10_operator_75, List.forall_mem_cons.mpr ⟨r_X10_operator_105, List.forall_mem_cons.mpr ⟨r_X10_operator_106, List.forall_mem_cons.mpr ⟨r_X10_operator_109, List.forall_mem_cons.mpr ⟨r_X10_operator_112, List.forall_mem_cons.mpr ⟨r_X10_operator_114, List.forall_mem_cons.mpr ⟨r_X10_operator_127, List.forall_mem_cons.mpr ⟨r_X10_operator_128, List.forall_mem_cons.mpr ⟨r_X10_operator_131, List.forall_mem_cons.mpr ⟨r_X10_operator_132, List.forall_mem_cons.mpr ⟨r_X10_operator_133, List.forall_mem_cons.mpr ⟨r_X10_operator_134, List.forall_mem_cons.mpr ⟨r_X10_operator_137, fun _ h => absurd h List.not_mem_nil⟩⟩⟩⟩⟩⟩⟩⟩⟩⟩⟩⟩⟩⟩⟩⟩⟩⟩⟩⟩⟩⟩⟩⟩⟩⟩⟩⟩⟩⟩
set_option maxRecDepth 100000 in
theorem tq_X10_operator_0 : tf_X10_operator = tl_X10_operator.map (fun q => (q.1, stepOf NPf md_X10_operator q.2)) := rfl
theorem ro_X10_operator : RowsOK (md_X10_operator, tl_X10_operator) tf_X10_operator := ⟨tq_X10_operator_0, ok_X10_operator_0⟩
theorem r_X4_init_0 : IOK WB AD SR FW TB md_X4_init 0 (.aload_n 0, 0, 0, 0, []) := io_plain (by decide +kernel) rfl
theorem r_X4_init_1 : IOK WB AD SR FW TB md_X4_init 1 (.invokespecial 3, 1000, 0, 0, []) := io_obj (by decide +kernel) (wb_1 217 rfl rfl) ob_1 ob_2
theorem r_X4_init_4 : IOK WB AD SR FW TB md_X4_init 4 (.aload_n 0, 0, 0, 0, []) := io_plain (by decide +kernel) rfl
theorem r_X4_init_5 : IOK WB AD SR FW TB md_X4_init 5 (.sipush 256, 0, 0, 0, []) := io_plain (by decide +kernel) rfl
theorem r_X4_init_8 : IOK WB AD SR FW TB md_X4_init 8 (.newarray .int, 0, 0, 0, []) := io_newa (by decide +kernel) (Or.inl ⟨rfl, rfl⟩) ac_int
theorem r_X4_init_10 : IOK WB AD SR FW TB md_X4_init 10 (.putfield 11, 5, 3, 2, []) := io_put (by decide +kernel) fo_RX4_11 po_RX4_1_5_3_2
theorem r_X4_init_13 : IOK WB AD SR FW TB md_X4_init 13 (.aload_n 0, 0, 0, 0, []) := io_plain (by decide +kernel) rfl
theorem r_X4_init_14 : IOK WB AD SR FW TB md_X4_init 14 (.sipush 256, 0, 0, 0, []) := io_plain (by decide +kernel) rfl
theorem r_X4_init_17 : IOK WB AD SR FW TB md_X4_init 17 (.newarray .int, 0, 0, 0, []) := io_newa (by decide +kernel) (Or.inl ⟨rfl, rfl⟩) ac_int
theorem r_X4_init_19 : IOK WB AD SR FW TB md_X4_init 19 (.putfield 15, 5, 4, 2, []) := io_put (by decide +kernel) fo_RX4_15 po_RX4_1_5_4_2
theorem r_X4_init_22 : IOK WB AD SR FW TB md_X4_init 22 (.aload_n 0, 0, 0, 0, []) := io_plain (by decide +kernel) rfl
theorem r_X4_init_23 : IOK WB AD SR FW TB md_X4_init 23 (.sipush 256, 0, 0, 0, []) := io_plain (by decide +kernel) rfl
theorem r_X4_init_26 : IOK WB AD SR FW TB md_X4_init 26 (.newarray .int, 0, 0, 0, []) := io_newa (by decide +kernel) (Or.inl ⟨rfl, rfl⟩) ac_int
theorem r_X4_init_28 : IOK WB AD SR FW TB md_X4_init 28 (.putfield 18, 5, 5, 2, []) := io_put (by decide +kernel) fo_RX4_18 po_RX4_1_5_5_2
theorem r_X4_init_31 : IOK WB AD SR FW TB md_X4_init 31 (.aload_n 0, 0, 0, 0, []) := io_plain (by decide +kernel) rfl
theorem r_X4_init_32 : IOK WB AD SR FW TB md_X4_init 32 (.sipush 256, 0, 0, 0, []) := io_plain (by decide +kernel) rfl
theorem r_X4_init_35 : IOK WB AD SR FW TB md_X4_init 35 (.newarray .int, 0, 0, 0, []) := io_newa (by decide +kernel) (Or.inl ⟨rfl, rfl⟩) ac_int
theorem r_X4_init_37 : IOK WB AD SR FW TB md_X4_init 37 (.putfield 21, 5, 6, 2, []) := io_put (by decide +kernel) fo_RX4_21 po_RX4_1_5_6_2
theorem r_X4_init_40 : IOK WB AD SR FW TB md_X4_init 40 (.aload_n 0, 0, 0, 0, []) := io_plain (by decide +kernel) rfl
theorem r_X4_init_41 : IOK WB AD SR FW TB md_X4_init 41 (.sipush 256, 0, 0, 0, []) := io_plain (by decide +kernel) rfl
theorem r_X4_init_44 : IOK WB AD SR FW TB md_X4_init 44 (.newarray .int, 0, 0, 0, []) := io_newa (by decide +kernel) (Or.inl ⟨rfl, rfl⟩) ac_int
theorem r_X4_init_46 : IOK WB AD SR FW TB md_X4_init 46 (.putfield 24, 5, 7, 2, []) := io_put (by decide +kernel) fo_RX4_24 po_RX4_1_5_7_2
theorem r_X4_init_49 : IOK WB AD SR FW TB md_X4_init 49 (.aload_n 0, 0, 0, 0, []) := io_plain (by decide +kernel) rfl
theorem r_X4_init_50 : IOK WB AD SR FW TB md_X4_init 50 (.sipush 256, 0, 0, 0, []) := io_plain (by decide +kernel) rfl
theorem r_X4_init_53 : IOK WB AD SR FW TB md_X4_init 53 (.newarray .int, 0, 0, 0, []) := io_newa (by decide +kernel) (Or.inl ⟨rfl, rfl⟩) ac_int
theorem r_X4_init_55 : IOK WB AD SR FW TB md_X4_init 55 (.putfield 27, 5, 8, 2, []) := io_put (by decide +kernel) fo_RX4_27 po_RX4_1_5_8_2
theorem r_X4_init_58 : IOK WB AD SR FW TB md_X4_init 58 (.aload_n 0, 0, 0, 0, []) := io_plain (by decide +kernel) rfl
theorem r_X4_init_59 : IOK WB AD SR FW TB md_X4_init 59 (.sipush 256, 0, 0, 0, []) := io_plain (by decide +kernel) rfl
theorem r_X4_init_62 : IOK WB AD SR FW TB md_X4_init 62 (.newarray .int, 0, 0, 0, []) := io_newa (by decide +kernel) (Or.inl ⟨rfl, rfl⟩) ac_int
theorem r_X4_init_64 : IOK WB AD SR FW TB md_X4_init 64 (.putfield 30, 5, 10, 2, []) := io_put (by decide +kernel) fo_RX4_30 po_RX4_1_5_10_2
theorem r_X4_init_67 : IOK WB AD SR FW TB md_X4_init 67 (.aload_n 0, 0, 0, 0, []) := io_plain (by decide +kernel) rfl
theorem r_X4_init_68 : IOK WB AD SR FW TB md_X4_init 68 (.sipush 256, 0, 0, 0, []) := io_plain (by decide +kernel) rfl
theorem r_X4_init_71 : IOK WB AD SR FW TB md_X4_init 71 (.newarray .int, 0, 0, 0, []) := io_newa (by decide +kernel) (Or.inl ⟨rfl, rfl⟩) ac_int
theorem r_X4_init_73 : IOK WB AD SR FW TB md_X4_init 73 (.putfield 33, 5, 11, 2, []) := io_put (by decide +kernel) fo_RX4_33 po_RX4_1_5_11_2
theorem r_X4_init_76 : IOK WB AD SR FW TB md_X4_init 76 (.aload_n 0, 0, 0, 0, []) := io_plain (by decide +kernel) rfl
theorem r_X4_init_77 : IOK WB AD SR FW TB md_X4_init 77 (.bipush 100, 0, 0, 0, []) := io_plain (by decide +kernel) rfl
theorem r_X4_init_79 : IOK WB AD SR FW TB md_X4_init 79 (.newarray .int, 0, 0, 0, []) := io_newa (by decide +kernel) (Or.inl ⟨rfl, rfl⟩) ac_int
theorem r_X4_init_81 : IOK WB AD SR FW TB md_X4_init 81 (.putfield 36, 5, 12, 2, []) := io_put (by decide +kernel) fo_RX4_36 po_RX4_1_5_12_2
theorem r_X4_init_84 : IOK WB AD SR FW TB md_X4_init 84 (.aload_n 0, 0, 0, 0, []) := io_plain (by decide +kernel) rfl
theorem r_X4_init_85 : IOK WB AD SR FW TB md_X4_init 85 (.sipush 640, 0, 0, 0, []) := io_plain (by decide +kernel) rfl
theorem r_X4_init_88 : IOK WB AD SR FW TB md_X4_init 88 (.newarray .int, 0, 0, 0, []) := io_newa (by decide +kernel) (Or.inl ⟨rfl, rfl⟩) ac_int
theorem r_X4_init_90 : IOK WB AD SR FW TB md_X4_init 90 (.putfield 39, 5, 13, 2, []) := io_put (by decide +kernel) fo_RX4_39 po_RX4_1_5_13_2
theorem r_X4_init_93 : IOK WB AD SR FW TB md_X4_init 93 (.aload_n 0, 0, 0, 0, []) := io_plain (by decide +kernel) rfl
theorem r_X4_init_94 : IOK WB AD SR FW TB md_X4_init 94 (.bipush 16, 0, 0, 0, []) := io_plain (by decide +kernel) rfl
theorem r_X4_init_96 : IOK WB AD SR FW TB md_X4_init 96 (.newarray .int, 0, 0, 0, []) := io_newa (by decide +kernel) (Or.inl ⟨rfl, rfl⟩) ac_int
theorem r_X4_init_98 : IOK WB AD SR FW TB md_X4_init 98 (.putfield 42, 5, 14, 2, []) := io_put (by decide +kernel) fo_RX4_42 po_RX4_1_5_14_2
theorem r_X4_init_101 : IOK WB AD SR FW TB md_X4_init 101 (.aload_n 0, 0, 0, 0, []) := io_plain (by decide +kernel) rfl
theorem r_X4_init_102 : IOK WB AD SR FW TB md_X4_init 102 (.aload_n 1, 0, 0, 0, []) := io_plain (by decide +kernel) rfl
theorem r_X4_init_103 : IOK WB AD SR FW TB md_X4_init 103 (.putfield 45, 5, 0, 2, []) := io_put (by decide +kernel) fo_RX4_45 po_RX4_1_5_0_2
theorem r_X4_init_106 : IOK WB AD SR FW TB md_X4_init 106 (.aload_n 0, 0, 0, 0, []) := io_plain (by decide +kernel) rfl
theorem r_X4_init_107 : IOK WB AD SR FW TB md_X4_init 107 (.aload_n 1, 0, 0, 0, []) := io_plain (by decide +kernel) rfl
theorem r_X4_init_108 : IOK WB AD SR FW TB md_X4_init 108 (.getfield 49, 9, 0, 2, []) := io_get (by decide +kernel) fo_RX4_49
theorem r_X4_init_111 : IOK WB AD SR FW TB md_X4_init 111 (.putfield 55, 5, 1, 2, []) := io_put (by decide +kernel) fo_RX4_55 po_RX4_1_5_1_2
theorem r_X4_init_114 : IOK WB AD SR FW TB md_X4_init 114 (.return_, 0, 0, 0, []) := io_void (by decide +kernel) rfl
set_option maxRecDepth 100000 in
theorem ok_X4_init_0 : ∀ q ∈ tl_X4_init_0, IOK WB AD SR FW TB md_X4_init q.1 q.2 := List.forall_mem_cons.mpr ⟨r_X4_init_0, List.forall_mem_cons.mpr ⟨r_X4_init_1, List.forall_mem_cons.mpr ⟨r_X4_init_4, List.forall_mem_cons.mpr ⟨r_X4_init_5, List.forall_mem_cons.mpr ⟨r_X4_init_8, List.forall_mem_cons.mpr ⟨r_X4_init_10, List.forall_mem_cons.mpr ⟨r_X4_init_13, List.forall_mem_cons.mpr ⟨r_X4_init_14, List.forall_mem_cons.mpr ⟨r_X4_init_17, List.forall_mem_cons.mpr ⟨r_X4_init_19, List.forall_mem_cons.mpr ⟨r_X4_init_22, List.forall_mem_cons.mpr ⟨r_X4_init_23, List.forall_mem_cons.mpr ⟨r_X4_init_26, List.forall_mem_cons.mpr ⟨r_X4_init_28, List.forall_mem_cons.mpr ⟨r_X4_init_31, List.forall_mem_cons.mpr ⟨r_X4_init_32, List.forall_mem_cons.mpr ⟨r_X4_init_35, List.forall_mem_cons.mpr ⟨r_X4_init_37, List.forall_mem_cons.mpr ⟨r_X4_init_40, List.forall_mem_cons.mpr ⟨r_X4_init_41, List.forall_mem_cons.mpr ⟨r_X4_init_44, List.forall_mem_cons.mpr ⟨r_X4_init_46, List.forall_mem_cons.mpr ⟨r_X4_init_49, List.forall_mem_cons.mpr ⟨r_X4_init_50, List.forall_mem_cons.mpr ⟨r_X4_init_53, List.forall_mem_cons.mpr ⟨r_X4_init_55, List.forall_mem_cons.mpr ⟨r_X4_init_58, List.forall_mem_cons.mpr ⟨r_X4_init_59, List.forall_mem_cons.mpr ⟨r_X4_init_62, List.forall_mem_cons.mpr ⟨r_X4_init_64, List.forall_mem_cons.mpr ⟨r_X4_init_67, List.forall_mem_cons.mpr ⟨r_X4_init_68, List.forall_mem_cons.mpr ⟨r_X4_init_71, List.forall_mem_cons.mpr ⟨r_X4_init_73, List.forall_mem_cons.mpr ⟨r_X4_init_76, List.forall_mem_cons.mpr ⟨r_X4_init_77, List.forall_mem_cons.mpr ⟨r_X4_init_79, List.forall_mem_cons.mpr ⟨r_X4_init_81, List.forall_mem_cons.mpr ⟨r_X4_init_84, List.forall_mem_cons.mpr ⟨r_X4_init_85, fun _ h => absurd h List.not_mem_nil⟩⟩⟩⟩⟩⟩⟩⟩⟩⟩⟩⟩⟩⟩⟩⟩⟩⟩⟩⟩⟩⟩⟩⟩⟩⟩⟩⟩⟩⟩⟩⟩⟩⟩⟩⟩⟩⟩⟩⟩
set_option maxRecDepth 100000 in
theorem tq_X4_init_0 : tf_X4_init_0 = tl_X4_init_0.map (fun q => (q.1, stepOf NPf md_X4_init q.2)) := rfl
set_option maxRecDepth 100000 in
theorem ok_X4_init_1 : ∀ q ∈ tl_X4_init_1, IOK WB AD SR FW TB md_X4_init q.1 q.2 := List.forall_mem_cons.mpr ⟨r_X4_init_88, List.forall_mem_cons.mpr ⟨r_X4_init_90, List.forall_mem_cons.mpr ⟨r_X4_init_93, List.forall_mem_cons.mpr ⟨r_X4_init_94, List.forall_mem_cons.mpr ⟨r_X4_init_96, List.forall_mem_cons.mpr ⟨r_X4_init_98, List.forall_mem_cons.mpr ⟨r_X4_init_101, List.forall_mem_cons.mpr ⟨r_X4_init_102, List.forall_mem_cons.mpr ⟨r_X4_init_103, List.forall_mem_cons.mpr ⟨r_X4_init_106, List.forall_mem_cons.mpr ⟨r_X4_init_107, List.forall_mem_cons.mpr ⟨r_X4_init_108, List.forall_mem_cons.mpr ⟨r_X4_init_111, List.forall_mem_cons.mpr ⟨r_X4_init_114, fun _ h => absurd h List.not_mem_nil⟩⟩⟩⟩⟩⟩⟩⟩⟩⟩⟩⟩⟩⟩
set_option maxRecDepth 100000 in
theorem tq_X4_init_1 : tf_X4_init_1 = tl_X4_init_1.map (fun q => (q.1, stepOf NPf md_X4_init q.2)) := rfl
theorem ro_X4_init : RowsOK (md_X4_init, tl_X4_init) tf_X4_init := rows_app ⟨tq_X4_init_0, ok_X4_init_0⟩ (⟨tq_X4_init_1, ok_X4_init_1⟩)
theorem r_X3_init_0 : IOK WB AD SR FW TB md_X3_init 0 (.aload_n 0, 0, 0, 0, []) := io_plain (by decide +kernel) rfl
theorem r_X3_init_1 : IOK WB AD SR FW TB md_X3_init 1 (.invokespecial 3, 1000, 0, 0, []) := io_obj (by decide +kernel) (wb_1 211 rfl rfl) ob_1 ob_2
theorem r_X3_init_4 : IOK WB AD SR FW TB md_X3_init 4 (.aload_n 0, 0, 0, 0, []) := io_plain (by decide +kernel) rfl
theorem r_X3_init_5 : IOK WB AD SR FW TB md_X3_init 5 (.sipush 256, 0, 0, 0, []) := io_plain (by decide +kernel) rfl
theorem r_X3_init_8 : IOK WB AD SR FW TB md_X3_init 8 (.newarray .int, 0, 0, 0, []) := io_newa (by decide +kernel) (Or.inl ⟨rfl, rfl⟩) ac_int
theorem r_X3_init_10 : IOK WB AD SR FW TB md_X3_init 10 (.putfield 11, 4, 3, 2, []) := io_put (by decide +kernel) fo_RX3_11 po_RX3_1_4_3_2
theorem r_X3_init_13 : IOK WB AD SR FW TB md_X3_init 13 (.aload_n 0, 0, 0, 0, []) := io_plain (by decide +kernel) rfl
theorem r_X3_init_14 : IOK WB AD SR FW TB md_X3_init 14 (.bipush 20, 0, 0, 0, []) := io_plain (by decide +kernel) rfl
theorem r_X3_init_16 : IOK WB AD SR FW TB md_X3_init 16 (.newarray .int, 0, 0, 0, []) := io_newa (by decide +kernel) (Or.inl ⟨rfl, rfl⟩) ac_int
theorem r_X3_init_18 : IOK WB AD SR FW TB md_X3_init 18 (.putfield 17, 4, 4, 2, []) := io_put (by decide +kernel) fo_RX3_17 po_RX3_1_4_4_2
theorem r_X3_init_21 : IOK WB AD SR FW TB md_X3_init 21 (.aload_n 0, 0, 0, 0, []) := io_plain (by decide +kernel) rfl
theorem r_X3_init_22 : IOK WB AD SR FW TB md_X3_init 22 (.bipush 64, 0, 0, 0, []) := io_plain (by decide +kernel) rfl
theorem r_X3_init_24 : IOK WB AD SR FW TB md_X3_init 24 (.newarray .int, 0, 0, 0, []) := io_newa (by decide +kernel) (Or.inl ⟨rfl, rfl⟩) ac_int
theorem r_X3_init_26 : IOK WB AD SR FW TB md_X3_init 26 (.putfield 20, 4, 6, 2, []) := io_put (by decide +kernel) fo_RX3_20 po_RX3_1_4_6_2
theorem r_X3_init_29 : IOK WB AD SR FW TB md_X3_init 29 (.aload_n 0, 0, 0, 0, []) := io_plain (by decide +kernel) rfl
theorem r_X3_init_30 : IOK WB AD SR FW TB md_X3_init 30 (.bipush 64, 0, 0, 0, []) := io_plain (by decide +kernel) rfl
theorem r_X3_init_32 : IOK WB AD SR FW TB md_X3_init 32 (.newarray .int, 0, 0, 0, []) := io_newa (by decide +kernel) (Or.inl ⟨rfl, rfl⟩) ac_int
theorem r_X3_init_34 : IOK WB AD SR FW TB md_X3_init 34 (.putfield 23, 4, 7, 2, []) := io_put (by decide +kernel) fo_RX3_23 po_RX3_1_4_7_2
theorem r_X3_init_37 : IOK WB AD SR FW TB md_X3_init 37 (.aload_n 0, 0, 0, 0, []) := io_plain (by decide +kernel) rfl
theorem r_X3_init_38 : IOK WB AD SR FW TB md_X3_init 38 (.bipush 64, 0, 0, 0, []) := io_plain (by decide +kernel) rfl
theorem r_X3_init_40 : IOK WB AD SR FW TB md_X3_init 40 (.newarray .int, 0, 0, 0, []) := io_newa (by decide +kernel) (Or.inl ⟨rfl, rfl⟩) ac_int
theorem r_X3_init_42 : IOK WB AD SR FW TB md_X3_init 42 (.putfield 26, 4, 8, 2, []) := io_put (by decide +kernel) fo_RX3_26 po_RX3_1_4_8_2
theorem r_X3_init_45 : IOK WB AD SR FW TB md_X3_init 45 (.aload_n 0, 0, 0, 0, []) := io_plain (by decide +kernel) rfl
theorem r_X3_init_46 : IOK WB AD SR FW TB md_X3_init 46 (.bipush 64, 0, 0, 0, []) := io_plain (by decide +kernel) rfl
theorem r_X3_init_48 : IOK WB AD SR FW TB md_X3_init 48 (.newarray .int, 0, 0, 0, []) := io_newa (by decide +kernel) (Or.inl ⟨rfl, rfl⟩) ac_int
theorem r_X3_init_50 : IOK WB AD SR FW TB md_X3_init 50 (.putfield 29, 4, 9, 2, []) := io_put (by decide +kernel) fo_RX3_29 po_RX3_1_4_9_2
theorem r_X3_init_53 : IOK WB AD SR FW TB md_X3_init 53 (.aload_n 0, 0, 0, 0, []) := io_plain (by decide +kernel) rfl
theorem r_X3_init_54 : IOK WB AD SR FW TB md_X3_init 54 (.bipush 64, 0, 0, 0, []) := io_plain (by decide +kernel) rfl
theorem r_X3_init_56 : IOK WB AD SR FW TB md_X3_init 56 (.newarray .int, 0, 0, 0, []) := io_newa (by decide +kernel) (Or.inl ⟨rfl, rfl⟩) ac_int
theorem r_X3_init_58 : IOK WB AD SR FW TB md_X3_init 58 (.putfield 32, 4, 10, 2, []) := io_put (by decide +kernel) fo_RX3_32 po_RX3_1_4_10_2
theorem r_X3_init_61 : IOK WB AD SR FW TB md_X3_init 61 (.aload_n 0, 0, 0, 0, []) := io_plain (by decide +kernel) rfl
theorem r_X3_init_62 : IOK WB AD SR FW TB md_X3_init 62 (.bipush 64, 0, 0, 0, []) := io_plain (by decide +kernel) rfl
theorem r_X3_init_64 : IOK WB AD SR FW TB md_X3_init 64 (.newarray .int, 0, 0, 0, []) := io_newa (by decide +kernel) (Or.inl ⟨rfl, rfl⟩) ac_int
theorem r_X3_init_66 : IOK WB AD SR FW TB md_X3_init 66 (.putfield 35, 4, 11, 2, []) := io_put (by decide +kernel) fo_RX3_35 po_RX3_1_4_11_2
theorem r_X3_init_69 : IOK WB AD SR FW TB md_X3_init 69 (.aload_n 0, 0, 0, 0, []) := io_plain (by decide +kernel) rfl
theorem r_X3_init_70 : IOK WB AD SR FW TB md_X3_init 70 (.aload_n 1, 0, 0, 0, []) := io_plain (by decide +kernel) rfl
theorem r_X3_init_71 : IOK WB AD SR FW TB md_X3_init 71 (.putfield 38, 4, 0, 2, []) := io_put (by decide +kernel) fo_RX3_38 po_RX3_1_4_0_2
theorem r_X3_init_74 : IOK WB AD SR FW TB md_X3_init 74 (.aload_n 0, 0, 0, 0, []) := io_plain (by decide +kernel) rfl
theorem r_X3_init_75 : IOK WB AD SR FW TB md_X3_init 75 (.aload_n 1, 0, 0, 0, []) := io_plain (by decide +kernel) rfl
theorem r_X3_init_76 : IOK WB AD SR FW TB md_X3_init 76 (.getfield 42, 9, 0, 2, []) := io_get (by decide +kernel) fo_RX3_42
theorem r_X3_init_79 : IOK WB AD SR FW TB md_X3_init 79 (.putfield 48, 4, 1, 2, []) := io_put (by decide +kernel) fo_RX3_48 po_RX3_1_4_1_2
theorem r_X3_init_82 : IOK WB AD SR FW TB md_X3_init 82 (.aload_n 0, 0, 0, 0, []) := io_plain (by decide +kernel) rfl
theorem r_X3_init_83 : IOK WB AD SR FW TB md_X3_init 83 (.new 9, 5, 0, 0, [2, 2, 0, 2, 2, 2, 2, 2, 2, 0, 2, 2, 2, 2, 2, 0]) := io_new (by decide +kernel) rfl no_RX3_9
theorem r_X3_init_86 : IOK WB AD SR FW TB md_X3_init 86 (.dup, 0, 0, 0, []) := io_plain (by decide +kernel) rfl
theorem r_X3_init_87 : IOK WB AD SR FW TB md_X3_init 87 (.aload_n 1, 0, 0, 0, []) := io_plain (by decide +kernel) rfl
theorem r_X3_init_88 : IOK WB AD SR FW TB md_X3_init 88 (.invokespecial 49, 82, 5, 0, []) := io_spec (by decide +kernel) tb_X4_init (Or.inl (wb_1 214 rfl rfl)) in_X4_init rfl rfl rfl pr_X4_init (by decide)
theorem r_X3_init_91 : IOK WB AD SR FW TB md_X3_init 91 (.putfield 52, 4, 2, 2, []) := io_put (by decide +kernel) fo_RX3_52 po_RX3_1_4_2_2
theorem r_X3_init_94 : IOK WB AD SR FW TB md_X3_init 94 (.return_, 0, 0, 0, []) := io_void (by decide +kernel) rfl
set_option maxRecDepth 100000 in
theorem ok_X3_init_0 : ∀ q ∈ tl_X3_init_0, IOK WB AD SR FW TB md_X3_init q.1 q.2 := List.forall_mem_cons.mpr ⟨r_X3_init_0, List.forall_mem_cons.mpr ⟨r_X3_init_1, List.forall_mem_cons.mpr ⟨r_X3_init_4, List.forall_mem_cons.mpr ⟨r_X3_init_5, List.forall_mem_cons.mpr ⟨r_X3_init_8, List.forall_mem_cons.mpr ⟨r_X3_init_10, List.forall_mem_cons.mpr ⟨r_X3_init_13, List.forall_mem_cons.mpr ⟨r_X3_init_14, List.forall_mem_cons.mpr ⟨r_X3_init_16, List.forall_mem_cons.mpr ⟨r_X3_init_18, List.forall_mem_cons.mpr ⟨r_X3_init_21, List.forall_mem_cons.mpr ⟨r_X3_init_22, List.forall_mem_cons.mpr ⟨r_X3_init_24, List.forall_mem_cons.mpr ⟨r_X3_init_26, List.forall_mem_cons.mpr ⟨r_X3_init_29, List.forall_mem_cons.mpr ⟨r_X3_init_30, List.forall_mem_cons.mpr ⟨r_X3_init_32, List.forall_mem_cons.mpr ⟨r_X3_init_34, List.forall_mem_cons.mpr ⟨r_X3_init_37, List.forall_mem_cons.mpr ⟨r_X3_init_38, List.forall_mem_cons.mpr ⟨r_X3_init_40, List.forall_mem_cons.mpr ⟨r_X3_init_42, List.forall_mem_cons.mpr ⟨r_X3_init_45, List.forall_mem_cons.mpr ⟨r_X3_init_46, List.forall_mem_cons.mpr ⟨r_X3_init_48, List.forall_mem_cons.mpr ⟨r_X3_init_50, List.forall_mem_cons.mpr ⟨r_X3_init_53, List.forall_mem_cons.mpr ⟨r_X3_init_54, List.forall_mem_cons.mpr ⟨r_X3_init_56, List.forall_mem_cons.mpr ⟨r_X3_init_58, List.forall_mem_cons.mpr ⟨r_X3_init_61, List.forall_mem_cons.mpr ⟨r_X3_init_62, List.forall_mem_cons.mpr ⟨r_X3_init_64, List.forall_mem_cons.mpr ⟨r_X3_init_66, List.forall_mem_cons.mpr ⟨r_X3_init_69, List.forall_mem_cons.mpr ⟨r_X3_init_70, List.forall_mem_cons.mpr ⟨r_X3_init_71, List.forall_mem_cons.mpr ⟨r_X3_init_74, List.forall_mem_cons.mpr ⟨r_X3_init_75, List.forall_mem_cons.mpr ⟨r_X3_init_76, fun _ h => absurd h List.not_mem_nil⟩⟩⟩⟩⟩⟩⟩⟩⟩⟩⟩⟩⟩⟩⟩⟩⟩⟩⟩⟩⟩⟩⟩⟩⟩⟩⟩⟩⟩⟩⟩⟩⟩⟩⟩⟩⟩⟩⟩⟩
set_option maxRecDepth 100000 in
theorem tq_X3_init_0 : tf_X3_init_0 = tl_X3_init_0.map (fun q => (q.1, stepOf NPf md_X3_init q.2)) := rfl
set_option maxRecDepth 100000 in
theorem ok_X3_init_1 : ∀ q ∈ tl_X3_init_1, IOK WB AD SR FW TB md_X3_init q.1 q.2 := List.forall_mem_cons.mpr ⟨r_X3_init_79, List.forall_mem_cons.mpr ⟨r_X3_init_82, List.forall_mem_cons.mpr ⟨r_X3_init_83, List.forall_mem_cons.mpr ⟨r_X3_init_86, List.forall_mem_cons.mpr ⟨r_X3_init_87, List.forall_mem_cons.mpr ⟨r_X3_init_88, List.forall_mem_cons.mpr ⟨r_X3_init_91, List.forall_mem_cons.mpr ⟨r_X3_init_94, fun _ h => absurd h List.not_mem_nil⟩⟩⟩⟩⟩⟩⟩⟩
set_option maxRecDepth 100000 in
theorem tq_X3_init_1 : tf_X3_init_1 = tl_X3_init_1.map (fun q => (q.1, stepOf NPf md_X3_init q.2)) := rfl
theorem ro_X3_init : RowsOK (md_X3_init, tl_X3_init) tf_X3_init := rows_app ⟨tq_X3_init_0, ok_X3_init_0⟩ (⟨tq_X3_init_1, ok_X3_init_1⟩)
theorem r_J6_bitCount_0f7a4_0 : IOK WB AD SR FW TB md_J6_bitCount_0f7a4 0 (.iload_n 0, 0, 0, 0, []) := io_plain (by decide +kernel) rfl
theorem r_J6_bitCount_0f7a4_1 : IOK WB AD SR FW TB md_J6_bitCount_0f7a4 1 (.iload_n 0, 0, 0, 0, []) := io_plain (by decide +kernel) rfl
theorem r_J6_bitCount_0f7a4_2 : IOK WB AD SR FW TB md_J6_bitCount_0f7a4 2 (.iconst 1, 0, 0, 0, []) := io_plain (by decide +kernel) rfl
theorem r_J6_bitCount_0f7a4_3 : IOK WB AD SR FW TB md_J6_bitCount_0f7a4 3 (.iushr, 0, 0, 0, []) := io_plain (by decide +kernel) rfl
theorem r_J6_bitCount_0f7a4_4 : IOK WB AD SR FW TB md_J6_bitCount_0f7a4 4 (.ldc_w 265, 1431655765, 0, 0, []) := io_ldc_w (by decide +kernel) (wb_4 29 rfl rfl)
theorem r_J6_bitCount_0f7a4_7 : IOK WB AD SR FW TB md_J6_bitCount_0f7a4 7 (.iand, 0, 0, 0, []) := io_plain (by decide +kernel) rfl
theorem r_J6_bitCount_0f7a4_8 : IOK WB AD SR FW TB md_J6_bitCount_0f7a4 8 (.isub, 0, 0, 0, []) := io_plain (by decide +kernel) rfl
theorem r_J6_bitCount_0f7a4_9 : IOK WB AD SR FW TB md_J6_bitCount_0f7a4 9 (.istore_n 0, 0, 0, 0, []) := io_plain (by decide +kernel) rfl
theorem r_J6_bitCount_0f7a4_10 : IOK WB AD SR FW TB md_J6_bitCount_0f7a4 10 (.iload_n 0, 0, 0, 0, []) := io_plain (by decide +kernel) rfl
theorem r_J6_bitCount_0f7a4_11 : IOK WB AD SR FW TB md_J6_bitCount_0f7a4 11 (.ldc_w 266, 858993459, 0, 0, []) := io_ldc_w (by decide +kernel) (wb_4 30 rfl rfl)
theorem r_J6_bitCount_0f7a4_14 : IOK WB AD SR FW TB md_J6_bitCount_0f7a4 14 (.iand, 0, 0, 0, []) := io_plain (by decide +kernel) rfl
theorem r_J6_bitCount_0f7a4_15 : IOK WB AD SR FW TB md_J6_bitCount_0f7a4 15 (.iload_n 0, 0, 0, 0, []) := io_plain (by decide +kernel) rfl
theorem r_J6_bitCount_0f7a4_16 : IOK WB AD SR FW TB md_J6_bitCount_0f7a4 16 (.iconst 2, 0, 0, 0, []) := io_plain (by decide +kernel) rfl
theorem r_J6_bitCount_0f7a4_17 : IOK WB AD SR FW TB md_J6_bitCount_0f7a4 17 (.iushr, 0, 0, 0, []) := io_plain (by decide +kernel) rfl
theorem r_J6_bitCount_0f7a4_18 : IOK WB AD SR FW TB md_J6_bitCount_0f7a4 18 (.ldc_w 266, 858993459, 0, 0, []) := io_ldc_w (by decide +kernel) (wb_4 30 rfl rfl)
theorem r_J6_bitCount_0f7a4_21 : IOK WB AD SR FW TB md_J6_bitCount_0f7a4 21 (.iand, 0, 0, 0, []) := io_plain (by decide +kernel) rfl
theorem r_J6_bitCount_0f7a4_22 : IOK WB AD SR FW TB md_J6_bitCount_0f7a4 22 (.iadd, 0, 0, 0, []) := io_plain (by decide +kernel) rfl
theorem r_J6_bitCount_0f7a4_23 : IOK WB AD SR FW TB md_J6_bitCount_0f7a4 23 (.istore_n 0, 0, 0, 0, []) := io_plain (by decide +kernel) rfl
theorem r_J6_bitCount_0f7a4_24 : IOK WB AD SR FW TB md_J6_bitCount_0f7a4 24 (.iload_n 0, 0, 0, 0, []) := io_plain (by decide +kernel) rfl
theorem r_J6_bitCount_0f7a4_25 : IOK WB AD SR FW TB md_J6_bitCount_0f7a4 25 (.iload_n 0, 0, 0, 0, []) := io_plain (by decide +kernel) rfl
theorem r_J6_bitCount_0f7a4_26 : IOK WB AD SR FW TB md_J6_bitCount_0f7a4 26 (.iconst 4, 0, 0, 0, []) := io_plain (by decide +kernel) rfl
theorem r_J6_bitCount_0f7a4_27 : IOK WB AD SR FW TB md_J6_bitCount_0f7a4 27 (.iushr, 0, 0, 0, []) := io_plain (by decide +kernel) rfl
theorem r_J6_bitCount_0f7a4_28 : IOK WB AD SR FW TB md_J6_bitCount_0f7a4 28 (.iadd, 0, 0, 0, []) := io_plain (by decide +kernel) rfl
theorem r_J6_bitCount_0f7a4_29 : IOK WB AD SR FW TB md_J6_bitCount_0f7a4 29 (.ldc_w 267, 252645135, 0, 0, []) := io_ldc_w (by decide +kernel) (wb_4 31 rfl rfl)
theorem r_J6_bitCount_0f7a4_32 : IOK WB AD SR FW TB md_J6_bitCount_0f7a4 32 (.iand, 0, 0, 0, []) := io_plain (by decide +kernel) rfl
theorem r_J6_bitCount_0f7a4_33 : IOK WB AD SR FW TB md_J6_bitCount_0f7a4 33 (.istore_n 0, 0, 0, 0, []) := io_plain (by decide +kernel) rfl
theorem r_J6_bitCount_0f7a4_34 : IOK WB AD SR FW TB md_J6_bitCount_0f7a4 34 (.iload_n 0, 0, 0, 0, []) := io_plain (by decide +kernel) rfl
theorem r_J6_bitCount_0f7a4_35 : IOK WB AD SR FW TB md_J6_bitCount_0f7a4 35 (.iload_n 0, 0, 0, 0, []) := io_plain (by decide +kernel) rfl
theorem r_J6_bitCount_0f7a4_36 : IOK WB AD SR FW TB md_J6_bitCount_0f7a4 36 (.bipush 8, 0, 0, 0, []) := io_plain (by decide +kernel) rfl
theorem r_J6_bitCount_0f7a4_38 : IOK WB AD SR FW TB md_J6_bitCount_0f7a4 38 (.iushr, 0, 0, 0, []) := io_plain (by decide +kernel) rfl
theorem r_J6_bitCount_0f7a4_39 : IOK WB AD SR FW TB md_J6_bitCount_0f7a4 39 (.iadd, 0, 0, 0, []) := io_plain (by decide +kernel) rfl
theorem r_J6_bitCount_0f7a4_40 : IOK WB AD SR FW TB md_J6_bitCount_0f7a4 40 (.istore_n 0, 0, 0, 0, []) := io_plain (by decide +kernel) rfl
theorem r_J6_bitCount_0f7a4_41 : IOK WB AD SR FW TB md_J6_bitCount_0f7a4 41 (.iload_n 0, 0, 0, 0, []) := io_plain (by decide +kernel) rfl
theorem r_J6_bitCount_0f7a4_42 : IOK WB AD SR FW TB md_J6_bitCount_0f7a4 42 (.iload_n 0, 0, 0, 0, []) := io_plain (by decide +kernel) rfl
theorem r_J6_bitCount_0f7a4_43 : IOK WB AD SR FW TB md_J6_bitCount_0f7a4 43 (.bipush 16, 0, 0, 0, []) := io_plain (by decide +kernel) rfl
theorem r_J6_bitCount_0f7a4_45 : IOK WB AD SR FW TB md_J6_bitCount_0f7a4 45 (.iushr, 0, 0, 0, []) := io_plain (by decide +kernel) rfl
theorem r_J6_bitCount_0f7a4_46 : IOK WB AD SR FW TB md_J6_bitCount_0f7a4 46 (.iadd, 0, 0, 0, []) := io_plain (by decide +kernel) rfl
theorem r_J6_bitCount_0f7a4_47 : IOK WB AD SR FW TB md_J6_bitCount_0f7a4 47 (.istore_n 0, 0, 0, 0, []) := io_plain (by decide +kernel) rfl
theorem r_J6_bitCount_0f7a4_48 : IOK WB AD SR FW TB md_J6_bitCount_0f7a4 48 (.iload_n 0, 0, 0, 0, []) := io_plain (by decide +kernel) rfl
theorem r_J6_bitCount_0f7a4_49 : IOK WB AD SR FW TB md_J6_bitCount_0f7a4 49 (.bipush 63, 0, 0, 0, []) := io_plain (by decide +kernel) rfl
theorem r_J6_bitCount_0f7a4_51 : IOK WB AD SR FW TB md_J6_bitCount_0f7a4 51 (.iand, 0, 0, 0, []) := io_plain (by decide +kernel) rfl
theorem r_J6_bitCount_0f7a4_52 : IOK WB AD SR FW TB md_J6_bitCount_0f7a4 52 (.ireturn, 0, 0, 0, []) := io_plain (by decide +kernel) rfl
set_option maxRecDepth 100000 in
theorem ok_J6_bitCount_0f7a4_0 : ∀ q ∈ tl_J6_bitCount_0f7a4_0, IOK WB AD SR FW TB md_J6_bitCount_0f7a4 q.1 q.2 := List.forall_mem_cons.mpr ⟨r_J6_bitCount_0f7a4_0, List.forall_mem_cons.mpr ⟨r_J6_bitCount_0f7a4_1, List.forall_mem_cons.mpr ⟨r_J6_bitCount_0f7a4_2, List.forall_mem_cons.mpr ⟨r_J6_bitCount_0f7a4_3, List.forall_mem_cons.mpr ⟨r_J6_bitCount_0f7a4_4, List.forall_mem_cons.mpr ⟨r_J6_bitCount_0f7a4_7, List.forall_mem_cons.mpr ⟨r_J6_bitCount_0f7a4_8, List.forall_mem_cons.mpr ⟨r_J6_bitCount_0f7a4_9, List.forall_mem_cons.mpr ⟨r_J6_bitCount_0f7a4_10, List.forall_mem_cons.mpr ⟨r_J6_bitCount_0f7a4_11, List.forall_mem_cons.mpr ⟨r_J6_bitCount_0f7a4_14, List.forall_mem_cons.mpr ⟨r_J6_bitCount_0f7a4_15, List.forall_mem_cons.mpr ⟨r_J6_bitCount_0f7a4_16, List.forall_mem_cons.mpr ⟨r_J6_bitCount_0f7a4_17, List.forall_mem_cons.mpr ⟨r_J6_bitCount_0f7a4_18, List.forall_mem_cons.mpr ⟨r_J6_bitCount_0f7a4_21, List.forall_mem_cons.mpr ⟨r_J6_bitCount_0f7a4_22, List.forall_mem_cons.mpr ⟨r_J6_bitCount_0f7a4_23, List.forall_mem_cons.mpr ⟨r_J6_bitCount_0f7a4_24, List.forall_mem_cons.mpr ⟨r_J6_bitCount_0f7a4_25, List.forall_mem_cons.mpr ⟨r_J6_bitCount_0f7a4_26, List.forall_mem_cons.mpr ⟨r_J6_bitCount_0f7a4_27, List.forall_mem_cons.mpr ⟨r_J6_bitCount_0f7a4_28, List.forall_mem_cons.mpr ⟨r_J6_bitCount_0f7a4_29, List.forall_mem_cons.mpr ⟨r_J6_bitCount_0f7a4_32, List.forall_mem_cons.mpr ⟨r_J6_bitCount_0f7a4_33, List.forall_mem_cons.mpr ⟨r_J6_bitCount_0f7a4_34, List.forall_mem_cons.mpr ⟨r_J6_bitCount_0f7a4_35, List.forall_mem_cons.mpr ⟨r_J6_bitCount_0f7a4_36, List.forall_mem_cons.mpr ⟨r_J6_bitCount_0f7a4_38, List.forall_mem_cons.mpr ⟨r_J6_bitCount_0f7a4_39, List.forall_mem_cons.mpr ⟨r_J6_bitCount_0f7a4_40, List.forall_mem_cons.mpr ⟨r_J6_bitCount_0f7a4_41, List.forall_mem_cons.mpr ⟨r_J6_bitCount_0f7a4_42, List.forall_mem_cons.mpr ⟨r_J6_bitCount_0f7a4_43, List.forall_mem_cons.mpr ⟨r_J6_bitCount_0f7a4_45, List.forall_mem_cons.mpr ⟨r_J6_bitCount_0f7a4_46, List.forall_mem_cons.mpr ⟨r_J6_bitCount_0f7a4_47, List.forall_mem_cons.mpr ⟨r_J6_bitCount_0f7a4_48, List.forall_mem_cons.mpr ⟨r_J6_bitCount_0f7a4_49, fun _ h => absurd h List.not_mem_nil⟩⟩⟩⟩⟩⟩⟩⟩⟩⟩⟩⟩⟩⟩⟩⟩⟩⟩⟩⟩⟩⟩⟩⟩⟩⟩⟩⟩⟩⟩⟩⟩⟩⟩⟩⟩⟩⟩⟩⟩
set_option maxRecDepth 100000 in
theorem tq_J6_bitCount_0f7a4_0 : tf_J6_bitCount_0f7a4_0 = tl_J6_bitCount_0f7a4_0.map (fun q => (q.1, stepOf NPf md_J6_bitCount_0f7a4 q.2)) := rfl
set_option maxRecDepth 100000 in
theorem ok_J6_bitCount_0f7a4_1 : ∀ q ∈ tl_J6_bitCount_0f7a4_1, IOK WB AD SR FW TB md_J6_bitCount_0f7a4 q.1 q.2 := List.forall_mem_cons.mpr ⟨r_J6_bitCount_0f7a4_51, List.forall_mem_cons.mpr ⟨r_J6_bitCount_0f7a4_52, fun _ h => absurd h List.not_mem_nil⟩⟩
set_option maxRecDepth 100000 in
theorem tq_J6_bitCount_0f7a4_1 : tf_J6_bitCount_0f7a4_1 = tl_J6_bitCount_0f7a4_1.map (fun q => (q.1, stepOf NPf md_J6_bitCount_0f7a4 q.2)) := rfl
theorem ro_J6_bitCount_0f7a4 : RowsOK (md_J6_bitCount_0f7a4, tl_J6_bitCount_0f7a4) tf_J6_bitCount_0f7a4 := rows_app ⟨tq_J6_bitCount_0f7a4_0, ok_J6_bitCount_0f7a4_0⟩ (⟨tq_J6_bitCount_0f7a4_1, ok_J6_bitCount_0f7a4_1⟩)
theorem r_X0_init_0 : IOK WB AD SR FW TB md_X0_init 0 (.aload_n 0, 0, 0, 0, []) := io_plain (by decide +kernel) rfl
theorem r_X0_init_1 : IOK WB AD SR FW TB md_X0_init 1 (.invokespecial 3, 1000, 0, 0, []) := io_obj (by decide +kernel) (wb_3 34 rfl rfl) ob_1 ob_2
theorem r_X0_init_4 : IOK WB AD SR FW TB md_X0_init 4 (.aload_n 0, 0, 0, 0, []) := io_plain (by decide +kernel) rfl
theorem r_X0_init_5 : IOK WB AD SR FW TB md_X0_init 5 (.bipush 60, 0, 0, 0, []) := io_plain (by decide +kernel) rfl
theorem r_X0_init_7 : IOK WB AD SR FW TB md_X0_init 7 (.newarray .int, 0, 0, 0, []) := io_newa (by decide +kernel) (Or.inl ⟨rfl, rfl⟩) ac_int
theorem r_X0_init_9 : IOK WB AD SR FW TB md_X0_init 9 (.putfield 9, 1, 5, 2, []) := io_put (by decide +kernel) fo_RX0_9 po_RX0_1_1_5_2
theorem r_X0_init_12 : IOK WB AD SR FW TB md_X0_init 12 (.aload_n 0, 0, 0, 0, []) := io_plain (by decide +kernel) rfl
theorem r_X0_init_13 : IOK WB AD SR FW TB md_X0_init 13 (.bipush 60, 0, 0, 0, []) := io_plain (by decide +kernel) rfl
theorem r_X0_init_15 : IOK WB AD SR FW TB md_X0_init 15 (.newarray .int, 0, 0, 0, []) := io_newa (by decide +kernel) (Or.inl ⟨rfl, rfl⟩) ac_int
theorem r_X0_init_17 : IOK WB AD SR FW TB md_X0_init 17 (.putfield 15, 1, 6, 2, []) := io_put (by decide +kernel) fo_RX0_15 po_RX0_1_1_6_2
theorem r_X0_init_20 : IOK WB AD SR FW TB md_X0_init 20 (.aload_n 0, 0, 0, 0, []) := io_plain (by decide +kernel) rfl
theorem r_X0_init_21 : IOK WB AD SR FW TB md_X0_init 21 (.bipush 60, 0, 0, 0, []) := io_plain (by decide +kernel) rfl
theorem r_X0_init_23 : IOK WB AD SR FW TB md_X0_init 23 (.newarray .int, 0, 0, 0, []) := io_newa (by decide +kernel) (Or.inl ⟨rfl, rfl⟩) ac_int
theorem r_X0_init_25 : IOK WB AD SR FW TB md_X0_init 25 (.putfield 18, 1, 7, 2, []) := io_put (by decide +kernel) fo_RX0_18 po_RX0_1_1_7_2
theorem r_X0_init_28 : IOK WB AD SR FW TB md_X0_init 28 (.aload_n 0, 0, 0, 0, []) := io_plain (by decide +kernel) rfl
theorem r_X0_init_29 : IOK WB AD SR FW TB md_X0_init 29 (.bipush 20, 0, 0, 0, []) := io_plain (by decide +kernel) rfl
theorem r_X0_init_31 : IOK WB AD SR FW TB md_X0_init 31 (.newarray .int, 0, 0, 0, []) := io_newa (by decide +kernel) (Or.inl ⟨rfl, rfl⟩) ac_int
theorem r_X0_init_33 : IOK WB AD SR FW TB md_X0_init 33 (.putfield 21, 1, 9, 2, []) := io_put (by decide +kernel) fo_RX0_21 po_RX0_1_1_9_2
theorem r_X0_init_36 : IOK WB AD SR FW TB md_X0_init 36 (.aload_n 0, 0, 0, 0, []) := io_plain (by decide +kernel) rfl
theorem r_X0_init_37 : IOK WB AD SR FW TB md_X0_init 37 (.bipush 21, 0, 0, 0, []) := io_plain (by decide +kernel) rfl
theorem r_X0_init_39 : IOK WB AD SR FW TB md_X0_init 39 (.newarray .long, 2, 0, 0, []) := io_newa (by decide +kernel) (Or.inr (Or.inr ⟨rfl, rfl⟩)) ac_long
theorem r_X0_init_41 : IOK WB AD SR FW TB md_X0_init 41 (.putfield 24, 1, 13, 2, []) := io_put (by decide +kernel) fo_RX0_24 po_RX0_1_1_13_2
theorem r_X0_init_44 : IOK WB AD SR FW TB md_X0_init 44 (.aload_n 0, 0, 0, 0, []) := io_plain (by decide +kernel) rfl
theorem r_X0_init_45 : IOK WB AD SR FW TB md_X0_init 45 (.aload_n 1, 0, 0, 0, []) := io_plain (by decide +kernel) rfl
theorem r_X0_init_46 : IOK WB AD SR FW TB md_X0_init 46 (.getfield 28, 7, 0, 2, []) := io_get (by decide +kernel) fo_RX0_28
theorem r_X0_init_49 : IOK WB AD SR FW TB md_X0_init 49 (.putfield 34, 1, 0, 2, []) := io_put (by decide +kernel) fo_RX0_34 po_RX0_1_1_0_2
theorem r_X0_init_52 : IOK WB AD SR FW TB md_X0_init 52 (.aload_n 0, 0, 0, 0, []) := io_plain (by decide +kernel) rfl
theorem r_X0_init_53 : IOK WB AD SR FW TB md_X0_init 53 (.aload_n 0, 0, 0, 0, []) := io_plain (by decide +kernel) rfl
theorem r_X0_init_54 : IOK WB AD SR FW TB md_X0_init 54 (.getfield 34, 1, 0, 2, []) := io_get (by decide +kernel) fo_RX0_34
theorem r_X0_init_57 : IOK WB AD SR FW TB md_X0_init 57 (.getfield 35, 9, 0, 2, []) := io_get (by decide +kernel) fo_RX0_35
theorem r_X0_init_60 : IOK WB AD SR FW TB md_X0_init 60 (.putfield 41, 1, 1, 2, []) := io_put (by decide +kernel) fo_RX0_41 po_RX0_1_1_1_2
theorem r_X0_init_63 : IOK WB AD SR FW TB md_X0_init 63 (.aload_n 0, 0, 0, 0, []) := io_plain (by decide +kernel) rfl
theorem r_X0_init_64 : IOK WB AD SR FW TB md_X0_init 64 (.aload_n 1, 0, 0, 0, []) := io_plain (by decide +kernel) rfl
theorem r_X0_init_65 : IOK WB AD SR FW TB md_X0_init 65 (.getfield 42, 7, 1, 2, []) := io_get (by decide +kernel) fo_RX0_42
theorem r_X0_init_68 : IOK WB AD SR FW TB md_X0_init 68 (.putfield 46, 1, 2, 2, []) := io_put (by decide +kernel) fo_RX0_46 po_RX0_1_1_2_2
theorem r_X0_init_71 : IOK WB AD SR FW TB md_X0_init 71 (.aload_n 0, 0, 0, 0, []) := io_plain (by decide +kernel) rfl
theorem r_X0_init_72 : IOK WB AD SR FW TB md_X0_init 72 (.aload_n 1, 0, 0, 0, []) := io_plain (by decide +kernel) rfl
theorem r_X0_init_73 : IOK WB AD SR FW TB md_X0_init 73 (.putfield 47, 1, 3, 2, []) := io_put (by decide +kernel) fo_RX0_47 po_RX0_1_1_3_2
theorem r_X0_init_76 : IOK WB AD SR FW TB md_X0_init 76 (.return_, 0, 0, 0, []) := io_void (by decide +kernel) rfl
set_option maxRecDepth 100000 in
theorem ok_X0_init_0 : ∀ q ∈ tl_X0_init, IOK WB AD SR FW TB md_X0_init q.1 q.2 := List.forall_mem_cons.mpr ⟨r_X0_init_0, List.forall_mem_cons.mpr ⟨r_X0_init_1, List.forall_mem_cons.mpr ⟨r_X0_init_4, List.forall_mem_cons.mpr ⟨r_X0_init_5, List.forall_mem_cons.mpr ⟨r_X0_init_7, List.forall_mem_cons.mpr ⟨r_X0_init_9, List.forall_mem_cons.mpr ⟨r_X0_init_12, List.forall_mem_cons.mpr ⟨r_X0_init_13, List.forall_mem_cons.mpr ⟨r_X0_init_15, List.forall_mem_cons.mpr ⟨r_X0_init_17, List.forall_mem_cons.mpr ⟨r_X0_init_20, List.forall_mem_cons.mpr ⟨r_X0_init_21, List.forall_mem_cons.mpr ⟨r_X0_init_23, List.forall_mem_cons.mpr ⟨r_X0_init_25, List.forall_mem_cons.mpr ⟨r_X0_init_28, List.forall_mem_cons.mpr ⟨r_X0_init_29, List.forall_mem_cons.mpr ⟨r_X0_init_31, List.forall_mem_cons.mpr ⟨r_X0_init_33, List.forall_mem_cons.mpr ⟨r_X0_init_36, List.forall_mem_cons.mpr ⟨r_X0_init_37, List.forall_mem_cons.mpr ⟨r_X0_init_39, List.forall_mem_cons.mpr ⟨r_X0_init_41, List.forall_mem_cons.mpr ⟨r_X0_init_44, List.forall_mem_cons.mpr ⟨r_X0_init_45, List.forall_mem_cons.mpr ⟨r_X0_init_46, List.forall_mem_cons.mpr ⟨r_X0_init_49, List.forall_mem_cons.mpr ⟨r_X0_init_52, List.forall_mem_cons.mpr ⟨r_X0_init_53, List.forall_mem_cons.mpr ⟨r_X0_init_54, List.forall_mem_cons.mpr ⟨r_X0_init_57, List.forall_mem_cons.mpr ⟨r_X0_init_60, List.forall_mem_cons.mpr ⟨r_X0_init_63, List.forall_mem_cons.mpr ⟨r_X0_init_64, List.forall_mem_cons.mpr ⟨r_X0_init_65, List.forall_mem_cons.mpr ⟨r_X0_init_68, List.forall_mem_cons.mpr ⟨r_X0_init_71, List.forall_mem_cons.mpr ⟨r_X0_init_72, List.forall_mem_cons.mpr ⟨r_X0_init_73, List.forall_mem_cons.mpr ⟨r_X0_init_76, fun _ h => absurd h List.not_mem_nil⟩⟩⟩⟩⟩⟩⟩⟩⟩⟩⟩⟩⟩⟩⟩⟩⟩⟩⟩⟩⟩⟩⟩⟩⟩⟩⟩⟩⟩⟩⟩⟩⟩⟩⟩⟩⟩⟩⟩
set_option maxRecDepth 100000 in
theorem tq_X0_init_0 : tf_X0_init = tl_X0_init.map (fun q => (q.1, stepOf NPf md_X0_init q.2)) := rfl
theorem ro_X0_init : RowsOK (md_X0_init, tl_X0_init) tf_X0_init := ⟨tq_X0_init_0, ok_X0_init_0⟩
theorem r_Jxc12de_init_da8c8_0 : IOK WB AD SR FW TB md_Jxc12de_init_da8c8 0 (.aload_n 0, 0, 0, 0, []) := io_plain (by decide +kernel) rfl
theorem r_Jxc12de_init_da8c8_1 : IOK WB AD SR FW TB md_Jxc12de_init_da8c8 1 (.invokespecial 1, 97, 0, 0, []) := io_spec (by decide +kernel) tb_Jxa1e45_init_da8c8 (Or.inl (wb_7 54 rfl rfl)) in_Jxa1e45_init_da8c8 rfl rfl rfl pr_Jxa1e45_init_da8c8 (by decide)
theorem r_Jxc12de_init_da8c8_4 : IOK WB AD SR FW TB md_Jxc12de_init_da8c8 4 (.aload_n 0, 0, 0, 0, []) := io_plain (by decide +kernel) rfl
theorem r_Jxc12de_init_da8c8_5 : IOK WB AD SR FW TB md_Jxc12de_init_da8c8 5 (.iconst 0, 0, 0, 0, []) := io_plain (by decide +kernel) rfl
theorem r_Jxc12de_init_da8c8_6 : IOK WB AD SR FW TB md_Jxc12de_init_da8c8 6 (.putfield 7, 0, 0, 0, []) := io_put (by decide +kernel) fo_RJxc12de_7 po_RJxc12de_1_0_0_0
theorem r_Jxc12de_init_da8c8_9 : IOK WB AD SR FW TB md_Jxc12de_init_da8c8 9 (.return_, 0, 0, 0, []) := io_void (by decide +kernel) rfl
set_option maxRecDepth 100000 in
theorem ok_Jxc12de_init_da8c8_0 : ∀ q ∈ tl_Jxc12de_init_da8c8, IOK WB AD SR FW TB md_Jxc12de_init_da8c8 q.1 q.2 := List.forall_mem_cons.mpr ⟨r_Jxc12de_init_da8c8_0, List.forall_mem_cons.mpr ⟨r_Jxc12de_init_da8c8_1, List.forall_mem_cons.mpr ⟨r_Jxc12de_init_da8c8_4, List.forall_mem_cons.mpr ⟨r_Jxc12de_init_da8c8_5, List.forall_mem_cons.mpr ⟨r_Jxc12de_init_da8c8_6, List.forall_mem_cons.mpr ⟨r_Jxc12de_init_da8c8_9, fun _ h => absurd h List.not_mem_nil⟩⟩⟩⟩⟩⟩
set_option maxRecDepth 100000 in
theorem tq_Jxc12de_init_da8c8_0 : tf_Jxc12de_init_da8c8 = tl_Jxc12de_init_da8c8.map (fun q => (q.1, stepOf NPf md_Jxc12de_init_da8c8 q.2)) := rfl
theorem ro_Jxc12de_init_da8c8 : RowsOK (md_Jxc12de_init_da8c8, tl_Jxc12de_init_da8c8) tf_Jxc12de_init_da8c8 := ⟨tq_Jxc12de_init_da8c8_0, ok_Jxc12de_init_da8c8_0⟩
theorem r_Jx4a65c_init_da8c8_0 : IOK WB AD SR FW TB md_Jx4a65c_init_da8c8 0 (.aload_n 0, 0, 0, 0, []) := io_plain (by decide +kernel) rfl
theorem r_Jx4a65c_init_da8c8_1 : IOK WB AD SR FW TB md_Jx4a65c_init_da8c8 1 (.invokespecial 1, 86, 0, 0, []) := io_spec (by decide +kernel) tb_Jxc12de_init_da8c8 (Or.inl (wb_7 51 rfl rfl)) in_Jxc12de_init_da8c8 rfl rfl rfl pr_Jxc12de_init_da8c8 (by decide)
theorem r_Jx4a65c_init_da8c8_4 : IOK WB AD SR FW TB md_Jx4a65c_init_da8c8 4 (.aload_n 0, 0, 0, 0, []) := io_plain (by decide +kernel) rfl
theorem r_Jx4a65c_init_da8c8_5 : IOK WB AD SR FW TB md_Jx4a65c_init_da8c8 5 (.getstatic 39, 0, 0, 0, []) := io_gets (by decide +kernel) (wb_7 58 rfl rfl)
theorem r_Jx4a65c_init_da8c8_8 : IOK WB AD SR FW TB md_Jx4a65c_init_da8c8 8 (.putfield 9, 0, 1, 2, []) := io_put (by decide +kernel) fo_RJx4a65c_9 po_RJx4a65c_1_0_1_2
theorem r_Jx4a65c_init_da8c8_11 : IOK WB AD SR FW TB md_Jx4a65c_init_da8c8 11 (.return_, 0, 0, 0, []) := io_void (by decide +kernel) rfl
set_option maxRecDepth 100000 in
theorem ok_Jx4a65c_init_da8c8_0 : ∀ q ∈ tl_Jx4a65c_init_da8c8, IOK WB AD SR FW TB md_Jx4a65c_init_da8c8 q.1 q.2 := List.forall_mem_cons.mpr ⟨r_Jx4a65c_init_da8c8_0, List.forall_mem_cons.mpr ⟨r_Jx4a65c_init_da8c8_1, List.forall_mem_cons.mpr ⟨r_Jx4a65c_init_da8c8_4, List.forall_mem_cons.mpr ⟨r_Jx4a65c_init_da8c8_5, List.forall_mem_cons.mpr ⟨r_Jx4a65c_init_da8c8_8, List.forall_mem_cons.mpr ⟨r_Jx4a65c_init_da8c8_11, fun _ h => absurd h List.not_mem_nil⟩⟩⟩⟩⟩⟩
set_option maxRecDepth 100000 in
theorem tq_Jx4a65c_init_da8c8_0 : tf_Jx4a65c_init_da8c8 = tl_Jx4a65c_init_da8c8.map (fun q => (q.1, stepOf NPf md_Jx4a65c_init_da8c8 q.2)) := rfl
theorem ro_Jx4a65c_init_da8c8 : RowsOK (md_Jx4a65c_init_da8c8, tl_Jx4a65c_init_da8c8) tf_Jx4a65c_init_da8c8 := ⟨tq_Jx4a65c_init_da8c8_0, ok_Jx4a65c_init_da8c8_0⟩
theorem r_Jx4a65c_grow_92f84_0 : IOK WB AD SR FW TB md_Jx4a65c_grow_92f84 0 (.aload_n 0, 0, 0, 0, []) := io_plain (by decide +kernel) rfl
theorem r_Jx4a65c_grow_92f84_1 : IOK WB AD SR FW TB md_Jx4a65c_grow_92f84 1 (.getfield 9, 0, 1, 2, []) := io_get (by decide +kernel) fo_RJx4a65c_9
theorem r_Jx4a65c_grow_92f84_4 : IOK WB AD SR FW TB md_Jx4a65c_grow_92f84 4 (.arraylength, 0, 0, 0, []) := io_plain (by decide +kernel) rfl
theorem r_Jx4a65c_grow_92f84_5 : IOK WB AD SR FW TB md_Jx4a65c_grow_92f84 5 (.istore_n 2, 0, 0, 0, []) := io_plain (by decide +kernel) rfl
theorem r_Jx4a65c_grow_92f84_6 : IOK WB AD SR FW TB md_Jx4a65c_grow_92f84 6 (.iload_n 2, 0, 0, 0, []) := io_plain (by decide +kernel) rfl
theorem r_Jx4a65c_grow_92f84_7 : IOK WB AD SR FW TB md_Jx4a65c_grow_92f84 7 (.ifCond .gt 13, 0, 0, 0, []) := io_plain (by decide +kernel) rfl
theorem r_Jx4a65c_grow_92f84_10 : IOK WB AD SR FW TB md_Jx4a65c_grow_92f84 10 (.aload_n 0, 0, 0, 0, []) := io_plain (by decide +kernel) rfl
theorem r_Jx4a65c_grow_92f84_11 : IOK WB AD SR FW TB md_Jx4a65c_grow_92f84 11 (.getfield 9, 0, 1, 2, []) := io_get (by decide +kernel) fo_RJx4a65c_9
theorem r_Jx4a65c_grow_92f84_14 : IOK WB AD SR FW TB md_Jx4a65c_grow_92f84 14 (.getstatic 39, 0, 0, 0, []) := io_gets (by decide +kernel) (wb_7 58 rfl rfl)
theorem r_Jx4a65c_grow_92f84_17 : IOK WB AD SR FW TB md_Jx4a65c_grow_92f84 17 (.if_acmp .eq 28, 0, 0, 0, []) := io_plain (by decide +kernel) rfl
theorem r_Jx4a65c_grow_92f84_45 : IOK WB AD SR FW TB md_Jx4a65c_grow_92f84 45 (.aload_n 0, 0, 0, 0, []) := io_plain (by decide +kernel) rfl
theorem r_Jx4a65c_grow_92f84_46 : IOK WB AD SR FW TB md_Jx4a65c_grow_92f84 46 (.bipush 10, 0, 0, 0, []) := io_plain (by decide +kernel) rfl
theorem r_Jx4a65c_grow_92f84_48 : IOK WB AD SR FW TB md_Jx4a65c_grow_92f84 48 (.iload_n 1, 0, 0, 0, []) := io_plain (by decide +kernel) rfl
theorem r_Jx4a65c_grow_92f84_49 : IOK WB AD SR FW TB md_Jx4a65c_grow_92f84 49 (.invokestatic 79, 1001, 0, 0, []) := io_max (by decide +kernel) (wb_9 75 rfl rfl) mx_1 mx_2 mx_3
theorem r_Jx4a65c_grow_92f84_52 : IOK WB AD SR FW TB md_Jx4a65c_grow_92f84 52 (.anewarray 7, 1, 0, 0, []) := io_newq (by decide +kernel) (by decide) (wb_9 76 rfl rfl)
theorem r_Jx4a65c_grow_92f84_55 : IOK WB AD SR FW TB md_Jx4a65c_grow_92f84 55 (.dup_x1, 0, 0, 0, []) := io_plain (by decide +kernel) rfl
theorem r_Jx4a65c_grow_92f84_56 : IOK WB AD SR FW TB md_Jx4a65c_grow_92f84 56 (.putfield 9, 0, 1, 2, []) := io_put (by decide +kernel) fo_RJx4a65c_9 po_RJx4a65c_0_0_1_2
theorem r_Jx4a65c_grow_92f84_59 : IOK WB AD SR FW TB md_Jx4a65c_grow_92f84 59 (.areturn, 0, 0, 0, []) := io_aret (by decide +kernel) rfl
set_option maxRecDepth 100000 in
theorem ok_Jx4a65c_grow_92f84_0 : ∀ q ∈ tl_Jx4a65c_grow_92f84, IOK WB AD SR FW TB md_Jx4a65c_grow_92f84 q.1 q.2 := List.forall_mem_cons.mpr ⟨r_Jx4a65c_grow_92f84_0, List.forall_mem_cons.mpr ⟨r_Jx4a65c_grow_92f84_1, List.forall_mem_cons.mpr ⟨r_Jx4a65c_grow_92f84_4, List.forall_mem_cons.mpr ⟨r_Jx4a65c_grow_92f84_5, List.forall_mem_cons.mpr ⟨r_Jx4a65c_grow_92f84_6, List.forall_mem_cons.mpr ⟨r_Jx4a65c_grow_92f84_7, List.forall_mem_cons.mpr ⟨r_Jx4a65c_grow_92f84_10, List.forall_mem_cons.mpr ⟨r_Jx4a65c_grow_92f84_11, List.forall_mem_cons.mpr ⟨r_Jx4a65c_grow_92f84_14, List.forall_mem_cons.mpr ⟨r_Jx4a65c_grow_92f84_17, List.forall_mem_cons.mpr ⟨r_Jx4a65c_grow_92f84_45, List.forall_mem_cons.mpr ⟨r_Jx4a65c_grow_92f84_46, List.forall_mem_cons.mpr ⟨r_Jx4a65c_grow_92f84_48, List.forall_mem_cons.mpr ⟨r_Jx4a65c_grow_92f84_49, List.forall_mem_cons.mpr ⟨r_Jx4a65c_grow_92f84_52, List.forall_mem_cons.mpr ⟨r_Jx4a65c_grow_92f84_55, List.forall_mem_cons.mpr ⟨r_Jx4a65c_grow_92f84_56, List.forall_mem_cons.mpr ⟨r_Jx4a65c_grow_92f84_59, fun _ h => absurd h List.not_mem_nil⟩⟩⟩⟩⟩⟩⟩⟩⟩⟩⟩⟩⟩⟩⟩⟩⟩⟩
set_option maxRecDepth 100000 in
theorem tq_Jx4a65c_grow_92f84_0 : tf_Jx4a65c_grow_92f84 = tl_Jx4a65c_grow_92f84.map (fun q => (q.1, stepOf NPf md_Jx4a65c_grow_92f84 q.2)) := rfl
theorem ro_Jx4a65c_grow_92f84 : RowsOK (md_Jx4a65c_grow_92f84, tl_Jx4a65c_grow_92f84) tf_Jx4a65c_grow_92f84 := ⟨tq_Jx4a65c_grow_92f84_0, ok_Jx4a65c_grow_92f84_0⟩
theorem r_X6_init_0 : IOK WB AD SR FW TB md_X6_init 0 (.aload_n 0, 0, 0, 0, []) := io_plain (by decide +kernel) rfl
theorem r_X6_init_1 : IOK WB AD SR FW TB md_X6_init 1 (.invokespecial 3, 1000, 0, 0, []) := io_obj (by decide +kernel) (wb_2 94 rfl rfl) ob_1 ob_2
theorem r_X6_init_4 : IOK WB AD SR FW TB md_X6_init 4 (.aload_n 0, 0, 0, 0, []) := io_plain (by decide +kernel) rfl
theorem r_X6_init_5 : IOK WB AD SR FW TB md_X6_init 5 (.sipush 1240, 0, 0, 0, []) := io_plain (by decide +kernel) rfl
theorem r_X6_init_8 : IOK WB AD SR FW TB md_X6_init 8 (.newarray .int, 0, 0, 0, []) := io_newa (by decide +kernel) (Or.inl ⟨rfl, rfl⟩) ac_int
theorem r_X6_init_10 : IOK WB AD SR FW TB md_X6_init 10 (.putfield 11, 7, 5, 2, []) := io_put (by decide +kernel) fo_RX6_11 po_RX6_1_7_5_2
theorem r_X6_init_13 : IOK WB AD SR FW TB md_X6_init 13 (.aload_n 0, 0, 0, 0, []) := io_plain (by decide +kernel) rfl
theorem r_X6_init_14 : IOK WB AD SR FW TB md_X6_init 14 (.sipush 1240, 0, 0, 0, []) := io_plain (by decide +kernel) rfl
theorem r_X6_init_17 : IOK WB AD SR FW TB md_X6_init 17 (.newarray .int, 0, 0, 0, []) := io_newa (by decide +kernel) (Or.inl ⟨rfl, rfl⟩) ac_int
theorem r_X6_init_19 : IOK WB AD SR FW TB md_X6_init 19 (.putfield 15, 7, 6, 2, []) := io_put (by decide +kernel) fo_RX6_15 po_RX6_1_7_6_2
theorem r_X6_init_22 : IOK WB AD SR FW TB md_X6_init 22 (.aload_n 0, 0, 0, 0, []) := io_plain (by decide +kernel) rfl
theorem r_X6_init_23 : IOK WB AD SR FW TB md_X6_init 23 (.sipush 1240, 0, 0, 0, []) := io_plain (by decide +kernel) rfl
theorem r_X6_init_26 : IOK WB AD SR FW TB md_X6_init 26 (.newarray .int, 0, 0, 0, []) := io_newa (by decide +kernel) (Or.inl ⟨rfl, rfl⟩) ac_int
theorem r_X6_init_28 : IOK WB AD SR FW TB md_X6_init 28 (.putfield 18, 7, 7, 2, []) := io_put (by decide +kernel) fo_RX6_18 po_RX6_1_7_7_2
theorem r_X6_init_31 : IOK WB AD SR FW TB md_X6_init 31 (.aload_n 0, 0, 0, 0, []) := io_plain (by decide +kernel) rfl
theorem r_X6_init_32 : IOK WB AD SR FW TB md_X6_init 32 (.sipush 1240, 0, 0, 0, []) := io_plain (by decide +kernel) rfl
theorem r_X6_init_35 : IOK WB AD SR FW TB md_X6_init 35 (.newarray .int, 0, 0, 0, []) := io_newa (by decide +kernel) (Or.inl ⟨rfl, rfl⟩) ac_int
theorem r_X6_init_37 : IOK WB AD SR FW TB md_X6_init 37 (.putfield 21, 7, 8, 2, []) := io_put (by decide +kernel) fo_RX6_21 po_RX6_1_7_8_2
theorem r_X6_init_40 : IOK WB AD SR FW TB md_X6_init 40 (.aload_n 0, 0, 0, 0, []) := io_plain (by decide +kernel) rfl
theorem r_X6_init_41 : IOK WB AD SR FW TB md_X6_init 41 (.sipush 1240, 0, 0, 0, []) := io_plain (by decide +kernel) rfl
theorem r_X6_init_44 : IOK WB AD SR FW TB md_X6_init 44 (.newarray .int, 0, 0, 0, []) := io_newa (by decide +kernel) (Or.inl ⟨rfl, rfl⟩) ac_int
theorem r_X6_init_46 : IOK WB AD SR FW TB md_X6_init 46 (.putfield 24, 7, 9, 2, []) := io_put (by decide +kernel) fo_RX6_24 po_RX6_1_7_9_2
theorem r_X6_init_49 : IOK WB AD SR FW TB md_X6_init 49 (.aload_n 0, 0, 0, 0, []) := io_plain (by decide +kernel) rfl
theorem r_X6_init_50 : IOK WB AD SR FW TB md_X6_init 50 (.aload_n 1, 0, 0, 0, []) := io_plain (by decide +kernel) rfl
theorem r_X6_init_51 : IOK WB AD SR FW TB md_X6_init 51 (.getfield 27, 3, 0, 2, []) := io_get (by decide +kernel) fo_RX6_27
theorem r_X6_init_54 : IOK WB AD SR FW TB md_X6_init 54 (.putfield 33, 7, 0, 2, []) := io_put (by decide +kernel) fo_RX6_33 po_RX6_1_7_0_2
theorem r_X6_init_57 : IOK WB AD SR FW TB md_X6_init 57 (.aload_n 0, 0, 0, 0, []) := io_plain (by decide +kernel) rfl
theorem r_X6_init_58 : IOK WB AD SR FW TB md_X6_init 58 (.aload_n 1, 0, 0, 0, []) := io_plain (by decide +kernel) rfl
theorem r_X6_init_59 : IOK WB AD SR FW TB md_X6_init 59 (.putfield 34, 7, 1, 2, []) := io_put (by decide +kernel) fo_RX6_34 po_RX6_1_7_1_2
theorem r_X6_init_62 : IOK WB AD SR FW TB md_X6_init 62 (.aload_n 0, 0, 0, 0, []) := io_plain (by decide +kernel) rfl
theorem r_X6_init_63 : IOK WB AD SR FW TB md_X6_init 63 (.aload_n 2, 0, 0, 0, []) := io_plain (by decide +kernel) rfl
theorem r_X6_init_64 : IOK WB AD SR FW TB md_X6_init 64 (.putfield 38, 7, 2, 2, []) := io_put (by decide +kernel) fo_RX6_38 po_RX6_1_7_2_2
theorem r_X6_init_67 : IOK WB AD SR FW TB md_X6_init 67 (.return_, 0, 0, 0, []) := io_void (by decide +kernel) rfl
set_option maxRecDepth 100000 in
theorem ok_X6_init_0 : ∀ q ∈ tl_X6_init, IOK WB AD SR FW TB md_X6_init q.1 q.2 := List.forall_mem_cons.mpr ⟨r_X6_init_0, List.forall_mem_cons.mpr ⟨r_X6_init_1, List.forall_mem_cons.mpr ⟨r_X6_init_4, List.forall_mem_cons.mpr ⟨r_X6_init_5, List.forall_mem_cons.mpr ⟨r_X6_init_8, List.forall_mem_cons.mpr ⟨r_X6_init_10, List.forall_mem_cons.mpr ⟨r_X6_init_13, List.forall_mem_cons.mpr ⟨r_X6_init_14, List.forall_mem_cons.mpr ⟨r_X6_init_17, List.forall_mem_cons.mpr ⟨r_X6_init_19, List.forall_mem_cons.mpr ⟨r_X6_init_22, List.forall_mem_cons.mpr ⟨r_X6_init_23, List.forall_mem_cons.mpr ⟨r_X6_init_26, List.forall_mem_cons.mpr ⟨r_X6_init_28, List.forall_mem_cons.mpr ⟨r_X6_init_31, List.forall_mem_cons.mpr ⟨r_X6_init_32, List.forall_mem_cons.mpr ⟨r_X6_init_35, List.forall_mem_cons.mpr ⟨r_X6_init_37, List.forall_mem_cons.mpr ⟨r_X6_init_40, List.forall_mem_cons.mpr ⟨r_X6_init_41, List.forall_mem_cons.mpr ⟨r_X6_init_44, List.forall_mem_cons.mpr ⟨r_X6_init_46, List.forall_mem_cons.mpr ⟨r_X6_init_49, List.forall_mem_cons.mpr ⟨r_X6_init_50, List.forall_mem_cons.mpr ⟨r_X6_init_51, List.forall_mem_cons.mpr ⟨r_X6_init_54, List.forall_mem_cons.mpr ⟨r_X6_init_57, List.forall_mem_cons.mpr ⟨r_X6_init_58, List.forall_mem_cons.mpr ⟨r_X6_init_59, List.forall_mem_cons.mpr ⟨r_X6_init_62, List.forall_mem_cons.mpr ⟨r_X6_init_63, List.forall_mem_cons.mpr ⟨r_X6_init_64, List.forall_mem_cons.mpr ⟨r_X6_init_67, fun _ h => absurd h List.not_mem_nil⟩⟩⟩⟩⟩⟩⟩⟩⟩⟩⟩⟩⟩⟩⟩⟩⟩⟩⟩⟩⟩⟩⟩⟩⟩⟩⟩⟩⟩⟩⟩⟩⟩
set_option maxRecDepth 100000 in
theorem tq_X6_init_0 : tf_X6_init = tl_X6_init.map (fun q => (q.1, stepOf NPf md_X6_init q.2)) := rfl
theorem ro_X6_init : RowsOK (md_X6_init, tl_X6_init) tf_X6_init := ⟨tq_X6_init_0, ok_X6_init_0⟩
theorem r_X2_add_0 : IOK WB AD SR FW TB md_X2_add 0 (.aload_n 0, 0, 0, 0, []) := io_plain (by decide +kernel) rfl
theorem r_X2_add_1 : IOK WB AD SR FW TB md_X2_add 1 (.getfield 9, 3, 4, 2, []) := io_get (by decide +kernel) fo_RX2_9
theorem r_X2_add_4 : IOK WB AD SR FW TB md_X2_add 4 (.iload_n 1, 0, 0, 0, []) := io_plain (by decide +kernel) rfl
theorem r_X2_add_5 : IOK WB AD SR FW TB md_X2_add 5 (.ifCond .eq 13, 0, 0, 0, []) := io_plain (by decide +kernel) rfl
theorem r_X2_add_18 : IOK WB AD SR FW TB md_X2_add 18 (.aload_n 0, 0, 0, 0, []) := io_plain (by decide +kernel) rfl
theorem r_X2_add_19 : IOK WB AD SR FW TB md_X2_add 19 (.getfield 26, 3, 2, 0, []) := io_get (by decide +kernel) fo_RX2_26
theorem r_X2_add_22 : IOK WB AD SR FW TB md_X2_add 22 (.iload_n 2, 0, 0, 0, []) := io_plain (by decide +kernel) rfl
theorem r_X2_add_23 : IOK WB AD SR FW TB md_X2_add 23 (.bastore, 0, 0, 0, []) := io_plain (by decide +kernel) rfl
theorem r_X2_add_24 : IOK WB AD SR FW TB md_X2_add 24 (.aload_n 0, 0, 0, 0, []) := io_plain (by decide +kernel) rfl
theorem r_X2_add_25 : IOK WB AD SR FW TB md_X2_add 25 (.dup, 0, 0, 0, []) := io_plain (by decide +kernel) rfl
theorem r_X2_add_26 : IOK WB AD SR FW TB md_X2_add 26 (.getfield 30, 3, 3, 0, []) := io_get (by decide +kernel) fo_RX2_30
theorem r_X2_add_29 : IOK WB AD SR FW TB md_X2_add 29 (.iload_n 1, 0, 0, 0, []) := io_plain (by decide +kernel) rfl
theorem r_X2_add_30 : IOK WB AD SR FW TB md_X2_add 30 (.ifCond .eq 7, 0, 0, 0, []) := io_plain (by decide +kernel) rfl
theorem r_X2_add_37 : IOK WB AD SR FW TB md_X2_add 37 (.iconst 0, 0, 0, 0, []) := io_plain (by decide +kernel) rfl
theorem r_X2_add_38 : IOK WB AD SR FW TB md_X2_add 38 (.iadd, 0, 0, 0, []) := io_plain (by decide +kernel) rfl
theorem r_X2_add_39 : IOK WB AD SR FW TB md_X2_add 39 (.putfield 30, 3, 3, 0, []) := io_put (by decide +kernel) fo_RX2_30 po_RX2_0_3_3_0
theorem r_X2_add_42 : IOK WB AD SR FW TB md_X2_add 42 (.aload_n 0, 0, 0, 0, []) := io_plain (by decide +kernel) rfl
theorem r_X2_add_43 : IOK WB AD SR FW TB md_X2_add 43 (.dup, 0, 0, 0, []) := io_plain (by decide +kernel) rfl
theorem r_X2_add_44 : IOK WB AD SR FW TB md_X2_add 44 (.getfield 26, 3, 2, 0, []) := io_get (by decide +kernel) fo_RX2_26
theorem r_X2_add_47 : IOK WB AD SR FW TB md_X2_add 47 (.iload_n 1, 0, 0, 0, []) := io_plain (by decide +kernel) rfl
theorem r_X2_add_48 : IOK WB AD SR FW TB md_X2_add 48 (.ifCond .eq 7, 0, 0, 0, []) := io_plain (by decide +kernel) rfl
theorem r_X2_add_55 : IOK WB AD SR FW TB md_X2_add 55 (.iconst 1, 0, 0, 0, []) := io_plain (by decide +kernel) rfl
theorem r_X2_add_56 : IOK WB AD SR FW TB md_X2_add 56 (.iadd, 0, 0, 0, []) := io_plain (by decide +kernel) rfl
theorem r_X2_add_57 : IOK WB AD SR FW TB md_X2_add 57 (.putfield 26, 3, 2, 0, []) := io_put (by decide +kernel) fo_RX2_26 po_RX2_0_3_2_0
theorem r_X2_add_60 : IOK WB AD SR FW TB md_X2_add 60 (.iload_n 1, 0, 0, 0, []) := io_plain (by decide +kernel) rfl
theorem r_X2_add_61 : IOK WB AD SR FW TB md_X2_add 61 (.ifCond .eq 10, 0, 0, 0, []) := io_plain (by decide +kernel) rfl
theorem r_X2_add_71 : IOK WB AD SR FW TB md_X2_add 71 (.aload_n 0, 0, 0, 0, []) := io_plain (by decide +kernel) rfl
theorem r_X2_add_72 : IOK WB AD SR FW TB md_X2_add 72 (.getfield 26, 3, 2, 0, []) := io_get (by decide +kernel) fo_RX2_26
theorem r_X2_add_75 : IOK WB AD SR FW TB md_X2_add 75 (.iconst 1, 0, 0, 0, []) := io_plain (by decide +kernel) rfl
theorem r_X2_add_76 : IOK WB AD SR FW TB md_X2_add 76 (.isub, 0, 0, 0, []) := io_plain (by decide +kernel) rfl
theorem r_X2_add_77 : IOK WB AD SR FW TB md_X2_add 77 (.ireturn, 0, 0, 0, []) := io_plain (by decide +kernel) rfl
set_option maxRecDepth 100000 in
theorem ok_X2_add_0 : ∀ q ∈ tl_X2_add, IOK WB AD SR FW TB md_X2_add q.1 q.2 := List.forall_mem_cons.mpr ⟨r_X2_add_0, List.forall_mem_cons.mpr ⟨r_X2_add_1, List.forall_mem_cons.mpr ⟨r_X2_add_4, List.forall_mem_cons.mpr ⟨r_X2_add_5, List.forall_mem_cons.mpr ⟨r_X2_add_18, List.forall_mem_cons.mpr ⟨r_X2_add_19, List.forall_mem_cons.mpr ⟨r_X2_add_22, List.forall_mem_cons.mpr ⟨r_X2_add_23, List.forall_mem_cons.mpr ⟨r_X2_add_24, List.forall_mem_cons.mpr ⟨r_X2_add_25, List.forall_mem_cons.mpr ⟨r_X2_add_26, List.forall_mem_cons.mpr ⟨r_X2_add_29, List.forall_mem_cons.mpr ⟨r_X2_add_30, List.forall_mem_cons.mpr ⟨r_X2_add_37, List.forall_mem_cons.mpr ⟨r_X2_add_38, List.forall_mem_cons.mpr ⟨r_X2_add_39, List.forall_mem_cons.mpr ⟨r_X2_add_42, List.forall_mem_cons.mpr ⟨r_X2_add_43, List.forall_mem_cons.mpr ⟨r_X2_add_44, List.forall_mem_cons.mpr ⟨r_X2_add_47, List.forall_mem_cons.mpr ⟨r_X2_add_48, List.forall_mem_cons.mpr ⟨r_X2_add_55, List.forall_mem_cons.mpr ⟨r_X2_add_56, List.forall_mem_cons.mpr ⟨r_X2_add_57, List.forall_mem_cons.mpr ⟨r_X2_add_60, List.forall_mem_cons.mpr ⟨r_X2_add_61, List.forall_mem_cons.mpr ⟨r_X2_add_71, List.forall_mem_cons.mpr ⟨r_X2_add_72, List.forall_mem_cons.mpr ⟨r_X2_add_75, List.forall_mem_cons.mpr ⟨r_X2_add_76, List.forall_mem_cons.mpr ⟨r_X2_add_77, fun _ h => absurd h List.not_mem_nil⟩⟩⟩⟩⟩⟩⟩⟩⟩⟩⟩⟩⟩⟩⟩⟩⟩⟩⟩⟩⟩⟩⟩⟩⟩⟩⟩⟩⟩⟩⟩
set_option maxRecDepth 100000 in
theorem tq_X2_add_0 : tf_X2_add = tl_X2_add.map (fun q => (q.1, stepOf NPf md_X2_add q.2)) := rfl
theorem ro_X2_add : RowsOK (md_X2_add, tl_X2_add) tf_X2_add := ⟨tq_X2_add_0, ok_X2_add_0⟩
theorem r_L_operator_0 : IOK WB AD SR FW TB md_L_operator 0 (.aload 4, 0, 0, 0, []) := io_plain (by decide +kernel) rfl
theorem r_L_operator_2 : IOK WB AD SR FW TB md_L_operator 2 (.iconst 0, 0, 0, 0, []) := io_plain (by decide +kernel) rfl
theorem r_L_operator_3 : IOK WB AD SR FW TB md_L_operator 3 (.aload_n 0, 0, 0, 0, []) := io_plain (by decide +kernel) rfl
theorem r_L_operator_4 : IOK WB AD SR FW TB md_L_operator 4 (.iload_n 1, 0, 0, 0, []) := io_plain (by decide +kernel) rfl
theorem r_L_operator_5 : IOK WB AD SR FW TB md_L_operator 5 (.iload_n 2, 0, 0, 0, []) := io_plain (by decide +kernel) rfl
theorem r_L_operator_6 : IOK WB AD SR FW TB md_L_operator 6 (.iload_n 3, 0, 0, 0, []) := io_plain (by decide +kernel) rfl
theorem r_L_operator_7 : IOK WB AD SR FW TB md_L_operator 7 (.invokevirtual 27, 81, 11, 0, []) := io_virt (by decide +kernel) tb_X10_operator (Or.inl (wb_5 87 rfl rfl)) in_X10_operator se_X10_operator ⟨_, rfl, rfl⟩ pr_X10_operator (by decide)
theorem r_L_operator_10 : IOK WB AD SR FW TB md_L_operator 10 (.i2l, 0, 0, 0, []) := io_plain (by decide +kernel) rfl
theorem r_L_operator_11 : IOK WB AD SR FW TB md_L_operator 11 (.lastore, 0, 0, 0, []) := io_plain (by decide +kernel) rfl
theorem r_L_operator_12 : IOK WB AD SR FW TB md_L_operator 12 (.goto 15, 0, 0, 0, []) := io_plain (by decide +kernel) rfl
theorem r_L_operator_27 : IOK WB AD SR FW TB md_L_operator 27 (.iconst 0, 0, 0, 0, []) := io_plain (by decide +kernel) rfl
theorem r_L_operator_28 : IOK WB AD SR FW TB md_L_operator 28 (.ireturn, 0, 0, 0, []) := io_plain (by decide +kernel) rfl
set_option maxRecDepth 100000 in
theorem ok_L_operator_0 : ∀ q ∈ tl_L_operator, IOK WB AD SR FW TB md_L_operator q.1 q.2 := List.forall_mem_cons.mpr ⟨r_L_operator_0, List.forall_mem_cons.mpr ⟨r_L_operator_2, List.forall_mem_cons.mpr ⟨r_L_operator_3, List.forall_mem_cons.mpr ⟨r_L_operator_4, List.forall_mem_cons.mpr ⟨r_L_operator_5, List.forall_mem_cons.mpr ⟨r_L_operator_6, List.forall_mem_cons.mpr ⟨r_L_operator_7, List.forall_mem_cons.mpr ⟨r_L_operator_10, List.forall_mem_cons.mpr ⟨r_L_operator_11, List.forall_mem_cons.mpr ⟨r_L_operator_12, List.forall_mem_cons.mpr ⟨r_L_operator_27, List.forall_mem_cons.mpr ⟨r_L_operator_28, fun _ h => absurd h List.not_mem_nil⟩⟩⟩⟩⟩⟩⟩⟩⟩⟩⟩⟩
set_option maxRecDepth 100000 in
theorem tq_L_operator_0 : tf_L_operator = tl_L_operator.map (fun q => (q.1, stepOf NPf md_L_operator q.2)) := rfl
theorem ro_L_operator : RowsOK (md_L_operator, tl_L_operator) tf_L_operator := ⟨tq_L_operator_0, ok_L_operator_0⟩
theorem r_X1_init_0 : IOK WB AD SR FW TB md_X1_init 0 (.aload_n 0, 0, 0, 0, []) := io_plain (by decide +kernel) rfl
theorem r_X1_init_1 : IOK WB AD SR FW TB md_X1_init 1 (.invokespecial 3, 1000, 0, 0, []) := io_obj (by decide +kernel) (wb_2 200 rfl rfl) ob_1 ob_2
theorem r_X1_init_4 : IOK WB AD SR FW TB md_X1_init 4 (.aload_n 0, 0, 0, 0, []) := io_plain (by decide +kernel) rfl
theorem r_X1_init_5 : IOK WB AD SR FW TB md_X1_init 5 (.bipush 24, 0, 0, 0, []) := io_plain (by decide +kernel) rfl
theorem r_X1_init_7 : IOK WB AD SR FW TB md_X1_init 7 (.newarray .int, 0, 0, 0, []) := io_newa (by decide +kernel) (Or.inl ⟨rfl, rfl⟩) ac_int
theorem r_X1_init_9 : IOK WB AD SR FW TB md_X1_init 9 (.putfield 9, 2, 4, 2, []) := io_put (by decide +kernel) fo_RX1_9 po_RX1_1_2_4_2
theorem r_X1_init_12 : IOK WB AD SR FW TB md_X1_init 12 (.aload_n 0, 0, 0, 0, []) := io_plain (by decide +kernel) rfl
theorem r_X1_init_13 : IOK WB AD SR FW TB md_X1_init 13 (.bipush 24, 0, 0, 0, []) := io_plain (by decide +kernel) rfl
theorem r_X1_init_15 : IOK WB AD SR FW TB md_X1_init 15 (.newarray .int, 0, 0, 0, []) := io_newa (by decide +kernel) (Or.inl ⟨rfl, rfl⟩) ac_int
theorem r_X1_init_17 : IOK WB AD SR FW TB md_X1_init 17 (.putfield 15, 2, 5, 2, []) := io_put (by decide +kernel) fo_RX1_15 po_RX1_1_2_5_2
theorem r_X1_init_20 : IOK WB AD SR FW TB md_X1_init 20 (.aload_n 0, 0, 0, 0, []) := io_plain (by decide +kernel) rfl
theorem r_X1_init_21 : IOK WB AD SR FW TB md_X1_init 21 (.bipush 24, 0, 0, 0, []) := io_plain (by decide +kernel) rfl
theorem r_X1_init_23 : IOK WB AD SR FW TB md_X1_init 23 (.newarray .int, 0, 0, 0, []) := io_newa (by decide +kernel) (Or.inl ⟨rfl, rfl⟩) ac_int
theorem r_X1_init_25 : IOK WB AD SR FW TB md_X1_init 25 (.putfield 18, 2, 6, 2, []) := io_put (by decide +kernel) fo_RX1_18 po_RX1_1_2_6_2
theorem r_X1_init_28 : IOK WB AD SR FW TB md_X1_init 28 (.aload_n 0, 0, 0, 0, []) := io_plain (by decide +kernel) rfl
theorem r_X1_init_29 : IOK WB AD SR FW TB md_X1_init 29 (.aload_n 1, 0, 0, 0, []) := io_plain (by decide +kernel) rfl
theorem r_X1_init_30 : IOK WB AD SR FW TB md_X1_init 30 (.getfield 21, 10, 0, 2, []) := io_get (by decide +kernel) fo_RX1_21
theorem r_X1_init_33 : IOK WB AD SR FW TB md_X1_init 33 (.putfield 27, 2, 0, 2, []) := io_put (by decide +kernel) fo_RX1_27 po_RX1_1_2_0_2
theorem r_X1_init_36 : IOK WB AD SR FW TB md_X1_init 36 (.aload_n 0, 0, 0, 0, []) := io_plain (by decide +kernel) rfl
theorem r_X1_init_37 : IOK WB AD SR FW TB md_X1_init 37 (.aload_n 1, 0, 0, 0, []) := io_plain (by decide +kernel) rfl
theorem r_X1_init_38 : IOK WB AD SR FW TB md_X1_init 38 (.putfield 28, 2, 1, 2, []) := io_put (by decide +kernel) fo_RX1_28 po_RX1_1_2_1_2
theorem r_X1_init_41 : IOK WB AD SR FW TB md_X1_init 41 (.return_, 0, 0, 0, []) := io_void (by decide +kernel) rfl
set_option maxRecDepth 100000 in
theorem ok_X1_init_0 : ∀ q ∈ tl_X1_init, IOK WB AD SR FW TB md_X1_init q.1 q.2 := List.forall_mem_cons.mpr ⟨r_X1_init_0, List.forall_mem_cons.mpr ⟨r_X1_init_1, List.forall_mem_cons.mpr ⟨r_X1_init_4, List.forall_mem_cons.mpr ⟨r_X1_init_5, List.forall_mem_cons.mpr ⟨r_X1_init_7, List.forall_mem_cons.mpr ⟨r_X1_init_9, List.forall_mem_cons.mpr ⟨r_X1_init_12, List.forall_mem_cons.mpr ⟨r_X1_init_13, List.forall_mem_cons.mpr ⟨r_X1_init_15, List.forall_mem_cons.mpr ⟨r_X1_init_17, List.forall_mem_cons.mpr ⟨r_X1_init_20, List.forall_mem_cons.mpr ⟨r_X1_init_21, List.forall_mem_cons.mpr ⟨r_X1_init_23, List.forall_mem_cons.mpr ⟨r_X1_init_25, List.forall_mem_cons.mpr ⟨r_X1_init_28, List.forall_mem_cons.mpr ⟨r_X1_init_29, List.forall_mem_cons.mpr ⟨r_X1_init_30, List.forall_mem_cons.mpr ⟨r_X1_init_33, List.forall_mem_cons.mpr ⟨r_X1_init_36, List.forall_mem_cons.mpr ⟨r_X1_init_37, List.forall_mem_cons.mpr ⟨r_X1_init_38, List.forall_mem_cons.mpr ⟨r_X1_init_41, fun _ h => absurd h List.not_mem_nil⟩⟩⟩⟩⟩⟩⟩⟩⟩⟩⟩⟩⟩⟩⟩⟩⟩⟩⟩⟩⟩⟩
set_option maxRecDepth 100000 in
theorem tq_X1_init_0 : tf_X1_init = tl_X1_init.map (fun q => (q.1, stepOf NPf md_X1_init q.2)) := rfl
theorem ro_X1_init : RowsOK (md_X1_init, tl_X1_init) tf_X1_init := ⟨tq_X1_init_0, ok_X1_init_0⟩
theorem r_X5_init_0 : IOK WB AD SR FW TB md_X5_init 0 (.aload_n 0, 0, 0, 0, []) := io_plain (by decide +kernel) rfl
theorem r_X5_init_1 : IOK WB AD SR FW TB md_X5_init 1 (.invokespecial 3, 1000, 0, 0, []) := io_obj (by decide +kernel) (wb_2 238 rfl rfl) ob_1 ob_2
theorem r_X5_init_4 : IOK WB AD SR FW TB md_X5_init 4 (.aload_n 0, 0, 0, 0, []) := io_plain (by decide +kernel) rfl
theorem r_X5_init_5 : IOK WB AD SR FW TB md_X5_init 5 (.sipush 240, 0, 0, 0, []) := io_plain (by decide +kernel) rfl
theorem r_X5_init_8 : IOK WB AD SR FW TB md_X5_init 8 (.newarray .int, 0, 0, 0, []) := io_newa (by decide +kernel) (Or.inl ⟨rfl, rfl⟩) ac_int
theorem r_X5_init_10 : IOK WB AD SR FW TB md_X5_init 10 (.putfield 11, 6, 4, 2, []) := io_put (by decide +kernel) fo_RX5_11 po_RX5_1_6_4_2
theorem r_X5_init_13 : IOK WB AD SR FW TB md_X5_init 13 (.aload_n 0, 0, 0, 0, []) := io_plain (by decide +kernel) rfl
theorem r_X5_init_14 : IOK WB AD SR FW TB md_X5_init 14 (.sipush 240, 0, 0, 0, []) := io_plain (by decide +kernel) rfl
theorem r_X5_init_17 : IOK WB AD SR FW TB md_X5_init 17 (.newarray .int, 0, 0, 0, []) := io_newa (by decide +kernel) (Or.inl ⟨rfl, rfl⟩) ac_int
theorem r_X5_init_19 : IOK WB AD SR FW TB md_X5_init 19 (.putfield 15, 6, 5, 2, []) := io_put (by decide +kernel) fo_RX5_15 po_RX5_1_6_5_2
theorem r_X5_init_22 : IOK WB AD SR FW TB md_X5_init 22 (.aload_n 0, 0, 0, 0, []) := io_plain (by decide +kernel) rfl
theorem r_X5_init_23 : IOK WB AD SR FW TB md_X5_init 23 (.sipush 240, 0, 0, 0, []) := io_plain (by decide +kernel) rfl
theorem r_X5_init_26 : IOK WB AD SR FW TB md_X5_init 26 (.newarray .int, 0, 0, 0, []) := io_newa (by decide +kernel) (Or.inl ⟨rfl, rfl⟩) ac_int
theorem r_X5_init_28 : IOK WB AD SR FW TB md_X5_init 28 (.putfield 18, 6, 6, 2, []) := io_put (by decide +kernel) fo_RX5_18 po_RX5_1_6_6_2
theorem r_X5_init_31 : IOK WB AD SR FW TB md_X5_init 31 (.aload_n 0, 0, 0, 0, []) := io_plain (by decide +kernel) rfl
theorem r_X5_init_32 : IOK WB AD SR FW TB md_X5_init 32 (.aload_n 1, 0, 0, 0, []) := io_plain (by decide +kernel) rfl
theorem r_X5_init_33 : IOK WB AD SR FW TB md_X5_init 33 (.getfield 21, 10, 0, 2, []) := io_get (by decide +kernel) fo_RX5_21
theorem r_X5_init_36 : IOK WB AD SR FW TB md_X5_init 36 (.putfield 27, 6, 0, 2, []) := io_put (by decide +kernel) fo_RX5_27 po_RX5_1_6_0_2
theorem r_X5_init_39 : IOK WB AD SR FW TB md_X5_init 39 (.aload_n 0, 0, 0, 0, []) := io_plain (by decide +kernel) rfl
theorem r_X5_init_40 : IOK WB AD SR FW TB md_X5_init 40 (.aload_n 1, 0, 0, 0, []) := io_plain (by decide +kernel) rfl
theorem r_X5_init_41 : IOK WB AD SR FW TB md_X5_init 41 (.putfield 28, 6, 1, 2, []) := io_put (by decide +kernel) fo_RX5_28 po_RX5_1_6_1_2
theorem r_X5_init_44 : IOK WB AD SR FW TB md_X5_init 44 (.return_, 0, 0, 0, []) := io_void (by decide +kernel) rfl
set_option maxRecDepth 100000 in
theorem ok_X5_init_0 : ∀ q ∈ tl_X5_init, IOK WB AD SR FW TB md_X5_init q.1 q.2 := List.forall_mem_cons.mpr ⟨r_X5_init_0, List.forall_mem_cons.mpr ⟨r_X5_init_1, List.forall_mem_cons.mpr ⟨r_X5_init_4, List.forall_mem_cons.mpr ⟨r_X5_init_5, List.forall_mem_cons.mpr ⟨r_X5_init_8, List.forall_mem_cons.mpr ⟨r_X5_init_10, List.forall_mem_cons.mpr ⟨r_X5_init_13, List.forall_mem_cons.mpr ⟨r_X5_init_14, List.forall_mem_cons.mpr ⟨r_X5_init_17, List.forall_mem_cons.mpr ⟨r_X5_init_19, List.forall_mem_cons.mpr ⟨r_X5_init_22, List.forall_mem_cons.mpr ⟨r_X5_init_23, List.forall_mem_cons.mpr ⟨r_X5_init_26, List.forall_mem_cons.mpr ⟨r_X5_init_28, List.forall_mem_cons.mpr ⟨r_X5_init_31, List.forall_mem_cons.mpr ⟨r_X5_init_32, List.forall_mem_cons.mpr ⟨r_X5_init_33, List.forall_mem_cons.mpr ⟨r_X5_init_36, List.forall_mem_cons.mpr ⟨r_X5_init_39, List.forall_mem_cons.mpr ⟨r_X5_init_40, List.forall_mem_cons.mpr ⟨r_X5_init_41, List.forall_mem_cons.mpr ⟨r_X5_init_44, fun _ h => absurd h List.not_mem_nil⟩⟩⟩⟩⟩⟩⟩⟩⟩⟩⟩⟩⟩⟩⟩⟩⟩⟩⟩⟩⟩⟩
set_option maxRecDepth 100000 in
theorem tq_X5_init_0 : tf_X5_init = tl_X5_init.map (fun q => (q.1, stepOf NPf md_X5_init q.2)) := rfl
theorem ro_X5_init : RowsOK (md_X5_init, tl_X5_init) tf_X5_init := ⟨tq_X5_init_0, ok_X5_init_0⟩
theorem r_X10_reduce_0 : IOK WB AD SR FW TB md_X10_reduce 0 (.aload_n 0, 0, 0, 0, []) := io_plain (by decide +kernel) rfl
theorem r_X10_reduce_1 : IOK WB AD SR FW TB md_X10_reduce 1 (.getfield 160, 11, 8, 0, []) := io_get (by decide +kernel) fo_RX10_160
theorem r_X10_reduce_4 : IOK WB AD SR FW TB md_X10_reduce 4 (.ifCond .ne 13, 0, 0, 0, []) := io_plain (by decide +kernel) rfl
theorem r_X10_reduce_17 : IOK WB AD SR FW TB md_X10_reduce 17 (.aload_n 0, 0, 0, 0, []) := io_plain (by decide +kernel) rfl
theorem r_X10_reduce_18 : IOK WB AD SR FW TB md_X10_reduce 18 (.getfield 21, 11, 1, 2, []) := io_get (by decide +kernel) fo_RX10_21
theorem r_X10_reduce_21 : IOK WB AD SR FW TB md_X10_reduce 21 (.invokevirtual 173, 63, 9, 0, []) := io_virt (by decide +kernel) tb_X8_startAnew (Or.inl (wb_3 128 rfl rfl)) in_X8_startAnew se_X8_startAnew ⟨_, rfl, rfl⟩ pr_X8_startAnew (by decide)
theorem r_X10_reduce_24 : IOK WB AD SR FW TB md_X10_reduce 24 (.aload_n 0, 0, 0, 0, []) := io_plain (by decide +kernel) rfl
theorem r_X10_reduce_25 : IOK WB AD SR FW TB md_X10_reduce 25 (.getfield 46, 11, 4, 2, []) := io_get (by decide +kernel) fo_RX10_46
theorem r_X10_reduce_28 : IOK WB AD SR FW TB md_X10_reduce 28 (.iconst 0, 0, 0, 0, []) := io_plain (by decide +kernel) rfl
theorem r_X10_reduce_29 : IOK WB AD SR FW TB md_X10_reduce 29 (.putfield 274, 7, 3, 0, []) := io_put (by decide +kernel) fo_RX10_274 po_RX10_0_7_3_0
theorem r_X10_reduce_32 : IOK WB AD SR FW TB md_X10_reduce 32 (.aload_n 0, 0, 0, 0, []) := io_plain (by decide +kernel) rfl
theorem r_X10_reduce_33 : IOK WB AD SR FW TB md_X10_reduce 33 (.getfield 46, 11, 4, 2, []) := io_get (by decide +kernel) fo_RX10_46
theorem r_X10_reduce_36 : IOK WB AD SR FW TB md_X10_reduce 36 (.aload_n 0, 0, 0, 0, []) := io_plain (by decide +kernel) rfl
theorem r_X10_reduce_37 : IOK WB AD SR FW TB md_X10_reduce 37 (.invokevirtual 203, 108, 11, 0, []) := io_virt (by decide +kernel) tb_X10_topAt (Or.inl (wb_5 170 rfl rfl)) in_X10_topAt se_X10_topAt ⟨_, rfl, rfl⟩ pr_X10_topAt (by decide)
theorem r_X10_reduce_40 : IOK WB AD SR FW TB md_X10_reduce 40 (.iconst 0, 0, 0, 0, []) := io_plain (by decide +kernel) rfl
theorem r_X10_reduce_41 : IOK WB AD SR FW TB md_X10_reduce 41 (.invokevirtual 277, 6, 7, 0, []) := io_virt (by decide +kernel) tb_X6_normalForm (Or.inr ⟨rfl, rfl, "RuleForge", List.mem_of_getElem? (i := 7) rfl⟩) in_X6_normalForm se_X6_normalForm ⟨_, rfl, rfl⟩ pr_X6_normalForm (by decide)
theorem r_X10_reduce_44 : IOK WB AD SR FW TB md_X10_reduce 44 (.istore_n 1, 0, 0, 0, []) := io_plain (by decide +kernel) rfl
theorem r_X10_reduce_45 : IOK WB AD SR FW TB md_X10_reduce 45 (.iload_n 1, 0, 0, 0, []) := io_plain (by decide +kernel) rfl
theorem r_X10_reduce_46 : IOK WB AD SR FW TB md_X10_reduce 46 (.ifCond .ge 6, 0, 0, 0, []) := io_plain (by decide +kernel) rfl
theorem r_X10_reduce_49 : IOK WB AD SR FW TB md_X10_reduce 49 (.bipush (-2), 0, 0, 0, []) := io_plain (by decide +kernel) rfl
theorem r_X10_reduce_51 : IOK WB AD SR FW TB md_X10_reduce 51 (.ireturn, 0, 0, 0, []) := io_plain (by decide +kernel) rfl
set_option maxRecDepth 100000 in
theorem ok_X10_reduce_0 : ∀ q ∈ tl_X10_reduce, IOK WB AD SR FW TB md_X10_reduce q.1 q.2 := fun _ h => absurd h List.not_mem_nil
set_option maxRecDepth 100000 in
theorem tq_X10_reduce_0 : tf_X10_reduce = tl_X10_reduce.map (fun q => (q.1, stepOf NPf md_X10_reduce q.2)) := rfl
theorem ro_X10_reduce : RowsOK (md_X10_reduce, tl_X10_reduce) tf_X10_reduce := ⟨tq_X10_reduce_0, ok_X10_reduce_0⟩
theorem r_X17_reduce_0 : IOK WB AD SR FW TB md_X17_reduce 0 (.aload_n 0, 0, 0, 0, []) := io_plain (by decide +kernel) rfl
theorem r_X17_reduce_1 : IOK WB AD SR FW TB md_X17_reduce 1 (.aload_n 0, 0, 0, 0, []) := io_plain (by decide +kernel) rfl
theorem r_X17_reduce_2 : IOK WB AD SR FW TB md_X17_reduce 2 (.getfield 44, 18, 13, 2, []) := io_get (by decide +kernel) fo_RX17_44
theorem r_X17_reduce_5 : IOK WB AD SR FW TB md_X17_reduce 5 (.invokeinterface 351 1, 109, 0, 0, []) := io_face (by decide +kernel) tb_Jx4a65c_isEmpty_aae02 (List.mem_of_getElem? (i := 4) rfl) (wb_8 9 rfl rfl) in_Jx4a65c_isEmpty_aae02 (wb_8 13 rfl rfl) rfl rfl rfl pr_Jx4a65c_isEmpty_aae02 (by decide)
theorem r_X17_reduce_10 : IOK WB AD SR FW TB md_X17_reduce 10 (.ifCond .eq 7, 0, 0, 0, []) := io_plain (by decide +kernel) rfl
theorem r_X17_reduce_17 : IOK WB AD SR FW TB md_X17_reduce 17 (.iconst 0, 0, 0, 0, []) := io_plain (by decide +kernel) rfl
theorem r_X17_reduce_18 : IOK WB AD SR FW TB md_X17_reduce 18 (.putfield 114, 18, 0, 0, []) := io_put (by decide +kernel) fo_RX17_114 po_RX17_0_18_0_0
theorem r_X17_reduce_21 : IOK WB AD SR FW TB md_X17_reduce 21 (.aload_n 0, 0, 0, 0, []) := io_plain (by decide +kernel) rfl
theorem r_X17_reduce_22 : IOK WB AD SR FW TB md_X17_reduce 22 (.getfield 114, 18, 0, 0, []) := io_get (by decide +kernel) fo_RX17_114
theorem r_X17_reduce_25 : IOK WB AD SR FW TB md_X17_reduce 25 (.ifCond .le 5, 0, 0, 0, []) := io_plain (by decide +kernel) rfl
theorem r_X17_reduce_30 : IOK WB AD SR FW TB md_X17_reduce 30 (.new 260, 16, 0, 0, [0]) := io_new (by decide +kernel) rfl no_RX17_260
theorem r_X17_reduce_33 : IOK WB AD SR FW TB md_X17_reduce 33 (.dup, 0, 0, 0, []) := io_plain (by decide +kernel) rfl
theorem r_X17_reduce_34 : IOK WB AD SR FW TB md_X17_reduce 34 (.invokespecial 320, 111, 16, 0, []) := io_spec (by decide +kernel) tb_X15_init (Or.inr ⟨"RuleForgeModel", List.mem_of_getElem? (i := 8) rfl⟩) in_X15_init rfl rfl rfl pr_X15_init (by decide)
theorem r_X17_reduce_37 : IOK WB AD SR FW TB md_X17_reduce 37 (.astore_n 1, 0, 0, 0, []) := io_plain (by decide +kernel) rfl
theorem r_X17_reduce_38 : IOK WB AD SR FW TB md_X17_reduce 38 (.aload_n 0, 0, 0, 0, []) := io_plain (by decide +kernel) rfl
theorem r_X17_reduce_39 : IOK WB AD SR FW TB md_X17_reduce 39 (.aload_n 0, 0, 0, 0, []) := io_plain (by decide +kernel) rfl
theorem r_X17_reduce_40 : IOK WB AD SR FW TB md_X17_reduce 40 (.invokevirtual 374, 103, 18, 0, []) := io_virt (by decide +kernel) tb_X17_top (Or.inl (wb_9 115 rfl rfl)) in_X17_top se_X17_top ⟨_, rfl, rfl⟩ pr_X17_top (by decide)
theorem r_X17_reduce_43 : IOK WB AD SR FW TB md_X17_reduce 43 (.aload_n 1, 0, 0, 0, []) := io_plain (by decide +kernel) rfl
theorem r_X17_reduce_44 : IOK WB AD SR FW TB md_X17_reduce 44 (.iconst 0, 0, 0, 0, []) := io_plain (by decide +kernel) rfl
theorem r_X17_reduce_45 : IOK WB AD SR FW TB md_X17_reduce 45 (.invokevirtual 264, 10, 18, 0, []) := io_virt (by decide +kernel) tb_X17_reduced (Or.inl (wb_8 74 rfl rfl)) in_X17_reduced se_X17_reduced ⟨_, rfl, rfl⟩ pr_X17_reduced (by decide)
set_option maxRecDepth 100000 in
theorem ok_X17_reduce_0 : ∀ q ∈ tl_X17_reduce, IOK WB AD SR FW TB md_X17_reduce q.1 q.2 := List.forall_mem_cons.mpr ⟨r_X17_reduce_0, List.forall_mem_cons.mpr ⟨r_X17_reduce_1, List.forall_mem_cons.mpr ⟨r_X17_reduce_2, List.forall_mem_cons.mpr ⟨r_X17_reduce_5, List.forall_mem_cons.mpr ⟨r_X17_reduce_10, List.forall_mem_cons.mpr ⟨r_X17_reduce_17, List.forall_mem_cons.mpr ⟨r_X17_reduce_18, List.forall_mem_cons.mpr ⟨r_X17_reduce_21, List.forall_mem_cons.mpr ⟨r_X17_reduce_22, List.forall_mem_cons.mpr ⟨r_X17_reduce_25, List.forall_mem_cons.mpr ⟨r_X17_reduce_30, List.forall_mem_cons.mpr ⟨r_X17_reduce_33, List.forall_mem_cons.mpr ⟨r_X17_reduce_34, List.forall_mem_cons.mpr ⟨r_X17_reduce_37, List.forall_mem_cons.mpr ⟨r_X17_reduce_38, List.forall_mem_cons.mpr ⟨r_X17_reduce_39, List.forall_mem_cons.mpr ⟨r_X17_reduce_40, List.forall_mem_cons.mpr ⟨r_X17_reduce_43, List.forall_mem_cons.mpr ⟨r_X17_reduce_44, List.forall_mem_cons.mpr ⟨r_X17_reduce_45, fun _ h => absurd h List.not_mem_nil⟩⟩⟩⟩⟩⟩⟩⟩⟩⟩⟩⟩⟩⟩⟩⟩⟩⟩⟩⟩
set_option maxRecDepth 100000 in
theorem tq_X17_reduce_0 : tf_X17_reduce = tl_X17_reduce.map (fun q => (q.1, stepOf NPf md_X17_reduce q.2)) := rfl
theorem ro_X17_reduce : RowsOK (md_X17_reduce, tl_X17_reduce) tf_X17_reduce := ⟨tq_X17_reduce_0, ok_X17_reduce_0⟩
theorem r_X9_init_0 : IOK WB AD SR FW TB md_X9_init 0 (.aload_n 0, 0, 0, 0, []) := io_plain (by decide +kernel) rfl
theorem r_X9_init_1 : IOK WB AD SR FW TB md_X9_init 1 (.invokespecial 3, 1000, 0, 0, []) := io_obj (by decide +kernel) (wb_2 140 rfl rfl) ob_1 ob_2
theorem r_X9_init_4 : IOK WB AD SR FW TB md_X9_init 4 (.aload_n 0, 0, 0, 0, []) := io_plain (by decide +kernel) rfl
theorem r_X9_init_5 : IOK WB AD SR FW TB md_X9_init 5 (.aload_n 1, 0, 0, 0, []) := io_plain (by decide +kernel) rfl
theorem r_X9_init_6 : IOK WB AD SR FW TB md_X9_init 6 (.getfield 9, 7, 0, 2, []) := io_get (by decide +kernel) fo_RX9_9
theorem r_X9_init_9 : IOK WB AD SR FW TB md_X9_init 9 (.putfield 15, 10, 0, 2, []) := io_put (by decide +kernel) fo_RX9_15 po_RX9_1_10_0_2
theorem r_X9_init_12 : IOK WB AD SR FW TB md_X9_init 12 (.aload_n 0, 0, 0, 0, []) := io_plain (by decide +kernel) rfl
theorem r_X9_init_13 : IOK WB AD SR FW TB md_X9_init 13 (.aload_n 1, 0, 0, 0, []) := io_plain (by decide +kernel) rfl
theorem r_X9_init_14 : IOK WB AD SR FW TB md_X9_init 14 (.putfield 18, 10, 1, 2, []) := io_put (by decide +kernel) fo_RX9_18 po_RX9_1_10_1_2
theorem r_X9_init_17 : IOK WB AD SR FW TB md_X9_init 17 (.aload_n 0, 0, 0, 0, []) := io_plain (by decide +kernel) rfl
theorem r_X9_init_18 : IOK WB AD SR FW TB md_X9_init 18 (.aload_n 1, 0, 0, 0, []) := io_plain (by decide +kernel) rfl
theorem r_X9_init_19 : IOK WB AD SR FW TB md_X9_init 19 (.getfield 22, 7, 1, 2, []) := io_get (by decide +kernel) fo_RX9_22
theorem r_X9_init_22 : IOK WB AD SR FW TB md_X9_init 22 (.putfield 26, 10, 2, 2, []) := io_put (by decide +kernel) fo_RX9_26 po_RX9_1_10_2_2
theorem r_X9_init_25 : IOK WB AD SR FW TB md_X9_init 25 (.aload_n 0, 0, 0, 0, []) := io_plain (by decide +kernel) rfl
theorem r_X9_init_26 : IOK WB AD SR FW TB md_X9_init 26 (.aload_n 1, 0, 0, 0, []) := io_plain (by decide +kernel) rfl
theorem r_X9_init_27 : IOK WB AD SR FW TB md_X9_init 27 (.getfield 27, 7, 2, 2, []) := io_get (by decide +kernel) fo_RX9_27
theorem r_X9_init_30 : IOK WB AD SR FW TB md_X9_init 30 (.putfield 31, 10, 3, 2, []) := io_put (by decide +kernel) fo_RX9_31 po_RX9_1_10_3_2
theorem r_X9_init_33 : IOK WB AD SR FW TB md_X9_init 33 (.return_, 0, 0, 0, []) := io_void (by decide +kernel) rfl
set_option maxRecDepth 100000 in
theorem ok_X9_init_0 : ∀ q ∈ tl_X9_init, IOK WB AD SR FW TB md_X9_init q.1 q.2 := List.forall_mem_cons.mpr ⟨r_X9_init_0, List.forall_mem_cons.mpr ⟨r_X9_init_1, List.forall_mem_cons.mpr ⟨r_X9_init_4, List.forall_mem_cons.mpr ⟨r_X9_init_5, List.forall_mem_cons.mpr ⟨r_X9_init_6, List.forall_mem_cons.mpr ⟨r_X9_init_9, List.forall_mem_cons.mpr ⟨r_X9_init_12, List.forall_mem_cons.mpr ⟨r_X9_init_13, List.forall_mem_cons.mpr ⟨r_X9_init_14, List.forall_mem_cons.mpr ⟨r_X9_init_17, List.forall_mem_cons.mpr ⟨r_X9_init_18, List.forall_mem_cons.mpr ⟨r_X9_init_19, List.forall_mem_cons.mpr ⟨r_X9_init_22, List.forall_mem_cons.mpr ⟨r_X9_init_25, List.forall_mem_cons.mpr ⟨r_X9_init_26, List.forall_mem_cons.mpr ⟨r_X9_init_27, List.forall_mem_cons.mpr ⟨r_X9_init_30, List.forall_mem_cons.mpr ⟨r_X9_init_33, fun _ h => absurd h List.not_mem_nil⟩⟩⟩⟩⟩⟩⟩⟩⟩⟩⟩⟩⟩⟩⟩⟩⟩⟩
set_option maxRecDepth 100000 in
theorem tq_X9_init_0 : tf_X9_init = tl_X9_init.map (fun q => (q.1, stepOf NPf md_X9_init q.2)) := rfl
theorem ro_X9_init : RowsOK (md_X9_init, tl_X9_init) tf_X9_init := ⟨tq_X9_init_0, ok_X9_init_0⟩
theorem r_Jxa1e45_init_da8c8_0 : IOK WB AD SR FW TB md_Jxa1e45_init_da8c8 0 (.aload_n 0, 0, 0, 0, []) := io_plain (by decide +kernel) rfl
theorem r_Jxa1e45_init_da8c8_1 : IOK WB AD SR FW TB md_Jxa1e45_init_da8c8 1 (.invokespecial 1, 1000, 0, 0, []) := io_obj (by decide +kernel) (wb_7 57 rfl rfl) ob_1 ob_2
theorem r_Jxa1e45_init_da8c8_4 : IOK WB AD SR FW TB md_Jxa1e45_init_da8c8 4 (.return_, 0, 0, 0, []) := io_void (by decide +kernel) rfl
set_option maxRecDepth 100000 in
theorem ok_Jxa1e45_init_da8c8_0 : ∀ q ∈ tl_Jxa1e45_init_da8c8, IOK WB AD SR FW TB md_Jxa1e45_init_da8c8 q.1 q.2 := List.forall_mem_cons.mpr ⟨r_Jxa1e45_init_da8c8_0, List.forall_mem_cons.mpr ⟨r_Jxa1e45_init_da8c8_1, List.forall_mem_cons.mpr ⟨r_Jxa1e45_init_da8c8_4, fun _ h => absurd h List.not_mem_nil⟩⟩⟩
set_option maxRecDepth 100000 in
theorem tq_Jxa1e45_init_da8c8_0 : tf_Jxa1e45_init_da8c8 = tl_Jxa1e45_init_da8c8.map (fun q => (q.1, stepOf NPf md_Jxa1e45_init_da8c8 q.2)) := rfl
theorem ro_Jxa1e45_init_da8c8 : RowsOK (md_Jxa1e45_init_da8c8, tl_Jxa1e45_init_da8c8) tf_Jxa1e45_init_da8c8 := ⟨tq_Jxa1e45_init_da8c8_0, ok_Jxa1e45_init_da8c8_0⟩
theorem r_X17_canTell_0 : IOK WB AD SR FW TB md_X17_canTell 0 (.aload_n 0, 0, 0, 0, []) := io_plain (by decide +kernel) rfl
theorem r_X17_canTell_1 : IOK WB AD SR FW TB md_X17_canTell 1 (.invokevirtual 171, 13, 17, 0, []) := io_virt (by decide +kernel) tb_X16_isVariable (Or.inl (wb_8 78 rfl rfl)) in_X16_isVariable se_X16_isVariable ⟨_, rfl, rfl⟩ pr_X16_isVariable (by decide)
theorem r_X17_canTell_4 : IOK WB AD SR FW TB md_X17_canTell 4 (.ifCond .ne 25, 0, 0, 0, []) := io_plain (by decide +kernel) rfl
theorem r_X17_canTell_7 : IOK WB AD SR FW TB md_X17_canTell 7 (.aload_n 0, 0, 0, 0, []) := io_plain (by decide +kernel) rfl
theorem r_X17_canTell_8 : IOK WB AD SR FW TB md_X17_canTell 8 (.invokestatic 377, 107, 18, 0, []) := io_stat (by decide +kernel) tb_X17_isPattern (Or.inl (wb_9 119 rfl rfl)) st_X17_isPattern pr_X17_isPattern
theorem r_X17_canTell_11 : IOK WB AD SR FW TB md_X17_canTell 11 (.ifCond .eq 18, 0, 0, 0, []) := io_plain (by decide +kernel) rfl
theorem r_X17_canTell_14 : IOK WB AD SR FW TB md_X17_canTell 14 (.iload_n 1, 0, 0, 0, []) := io_plain (by decide +kernel) rfl
theorem r_X17_canTell_15 : IOK WB AD SR FW TB md_X17_canTell 15 (.aload_n 0, 0, 0, 0, []) := io_plain (by decide +kernel) rfl
theorem r_X17_canTell_16 : IOK WB AD SR FW TB md_X17_canTell 16 (.invokevirtual 239, 38, 17, 0, []) := io_virt (by decide +kernel) tb_X16_variables (Or.inl (wb_8 163 rfl rfl)) in_X16_variables se_X16_variables ⟨_, rfl, rfl⟩ pr_X16_variables (by decide)
theorem r_X17_canTell_19 : IOK WB AD SR FW TB md_X17_canTell 19 (.iconst (-1), 0, 0, 0, []) := io_plain (by decide +kernel) rfl
theorem r_X17_canTell_20 : IOK WB AD SR FW TB md_X17_canTell 20 (.ixor, 0, 0, 0, []) := io_plain (by decide +kernel) rfl
theorem r_X17_canTell_21 : IOK WB AD SR FW TB md_X17_canTell 21 (.iand, 0, 0, 0, []) := io_plain (by decide +kernel) rfl
theorem r_X17_canTell_22 : IOK WB AD SR FW TB md_X17_canTell 22 (.ifCond .ne 7, 0, 0, 0, []) := io_plain (by decide +kernel) rfl
theorem r_X17_canTell_25 : IOK WB AD SR FW TB md_X17_canTell 25 (.iconst 1, 0, 0, 0, []) := io_plain (by decide +kernel) rfl
theorem r_X17_canTell_26 : IOK WB AD SR FW TB md_X17_canTell 26 (.goto 4, 0, 0, 0, []) := io_plain (by decide +kernel) rfl
theorem r_X17_canTell_30 : IOK WB AD SR FW TB md_X17_canTell 30 (.ireturn, 0, 0, 0, []) := io_plain (by decide +kernel) rfl
set_option maxRecDepth 100000 in
theorem ok_X17_canTell_0 : ∀ q ∈ tl_X17_canTell, IOK WB AD SR FW TB md_X17_canTell q.1 q.2 := List.forall_mem_cons.mpr ⟨r_X17_canTell_0, List.forall_mem_cons.mpr ⟨r_X17_canTell_1, List.forall_mem_cons.mpr ⟨r_X17_canTell_4, List.forall_mem_cons.mpr ⟨r_X17_canTell_7, List.forall_mem_cons.mpr ⟨r_X17_canTell_8, List.forall_mem_cons.mpr ⟨r_X17_canTell_11, List.forall_mem_cons.mpr ⟨r_X17_canTell_14, List.forall_mem_cons.mpr ⟨r_X17_canTell_15, List.forall_mem_cons.mpr ⟨r_X17_canTell_16, List.forall_mem_cons.mpr ⟨r_X17_canTell_19, List.forall_mem_cons.mpr ⟨r_X17_canTell_20, List.forall_mem_cons.mpr ⟨r_X17_canTell_21, List.forall_mem_cons.mpr ⟨r_X17_canTell_22, List.forall_mem_cons.mpr ⟨r_X17_canTell_25, List.forall_mem_cons.mpr ⟨r_X17_canTell_26, List.forall_mem_cons.mpr ⟨r_X17_canTell_30, fun _ h => absurd h List.not_mem_nil⟩⟩⟩⟩⟩⟩⟩⟩⟩⟩⟩⟩⟩⟩⟩⟩
set_option maxRecDepth 100000 in
theorem tq_X17_canTell_0 : tf_X17_canTell = tl_X17_canTell.map (fun q => (q.1, stepOf NPf md_X17_canTell q.2)) := rfl
theorem ro_X17_canTell : RowsOK (md_X17_canTell, tl_X17_canTell) tf_X17_canTell := ⟨tq_X17_canTell_0, ok_X17_canTell_0⟩
theorem r_X2_init_0 : IOK WB AD SR FW TB md_X2_init 0 (.aload_n 0, 0, 0, 0, []) := io_plain (by decide +kernel) rfl
theorem r_X2_init_1 : IOK WB AD SR FW TB md_X2_init 1 (.invokespecial 3, 1000, 0, 0, []) := io_obj (by decide +kernel) (wb_1 179 rfl rfl) ob_1 ob_2
theorem r_X2_init_4 : IOK WB AD SR FW TB md_X2_init 4 (.aload_n 0, 0, 0, 0, []) := io_plain (by decide +kernel) rfl
theorem r_X2_init_5 : IOK WB AD SR FW TB md_X2_init 5 (.bipush 20, 0, 0, 0, []) := io_plain (by decide +kernel) rfl
theorem r_X2_init_7 : IOK WB AD SR FW TB md_X2_init 7 (.newarray .boolean, 1, 0, 0, []) := io_newa (by decide +kernel) (Or.inr (Or.inl ⟨rfl, rfl⟩)) ac_boolean
theorem r_X2_init_9 : IOK WB AD SR FW TB md_X2_init 9 (.putfield 9, 3, 4, 2, []) := io_put (by decide +kernel) fo_RX2_9 po_RX2_1_3_4_2
theorem r_X2_init_12 : IOK WB AD SR FW TB md_X2_init 12 (.aload_n 0, 0, 0, 0, []) := io_plain (by decide +kernel) rfl
theorem r_X2_init_13 : IOK WB AD SR FW TB md_X2_init 13 (.aload_n 1, 0, 0, 0, []) := io_plain (by decide +kernel) rfl
theorem r_X2_init_14 : IOK WB AD SR FW TB md_X2_init 14 (.putfield 15, 3, 0, 2, []) := io_put (by decide +kernel) fo_RX2_15 po_RX2_1_3_0_2
theorem r_X2_init_17 : IOK WB AD SR FW TB md_X2_init 17 (.aload_n 0, 0, 0, 0, []) := io_plain (by decide +kernel) rfl
theorem r_X2_init_18 : IOK WB AD SR FW TB md_X2_init 18 (.aload_n 1, 0, 0, 0, []) := io_plain (by decide +kernel) rfl
theorem r_X2_init_19 : IOK WB AD SR FW TB md_X2_init 19 (.getfield 19, 9, 0, 2, []) := io_get (by decide +kernel) fo_RX2_19
theorem r_X2_init_22 : IOK WB AD SR FW TB md_X2_init 22 (.putfield 25, 3, 1, 2, []) := io_put (by decide +kernel) fo_RX2_25 po_RX2_1_3_1_2
theorem r_X2_init_25 : IOK WB AD SR FW TB md_X2_init 25 (.return_, 0, 0, 0, []) := io_void (by decide +kernel) rfl
set_option maxRecDepth 100000 in
theorem ok_X2_init_0 : ∀ q ∈ tl_X2_init, IOK WB AD SR FW TB md_X2_init q.1 q.2 := List.forall_mem_cons.mpr ⟨r_X2_init_0, List.forall_mem_cons.mpr ⟨r_X2_init_1, List.forall_mem_cons.mpr ⟨r_X2_init_4, List.forall_mem_cons.mpr ⟨r_X2_init_5, List.forall_mem_cons.mpr ⟨r_X2_init_7, List.forall_mem_cons.mpr ⟨r_X2_init_9, List.forall_mem_cons.mpr ⟨r_X2_init_12, List.forall_mem_cons.mpr ⟨r_X2_init_13, List.forall_mem_cons.mpr ⟨r_X2_init_14, List.forall_mem_cons.mpr ⟨r_X2_init_17, List.forall_mem_cons.mpr ⟨r_X2_init_18, List.forall_mem_cons.mpr ⟨r_X2_init_19, List.forall_mem_cons.mpr ⟨r_X2_init_22, List.forall_mem_cons.mpr ⟨r_X2_init_25, fun _ h => absurd h List.not_mem_nil⟩⟩⟩⟩⟩⟩⟩⟩⟩⟩⟩⟩⟩⟩
set_option maxRecDepth 100000 in
theorem tq_X2_init_0 : tf_X2_init = tl_X2_init.map (fun q => (q.1, stepOf NPf md_X2_init q.2)) := rfl
theorem ro_X2_init : RowsOK (md_X2_init, tl_X2_init) tf_X2_init := ⟨tq_X2_init_0, ok_X2_init_0⟩
theorem r_Jx4a65c_grow_d5877_0 : IOK WB AD SR FW TB md_Jx4a65c_grow_d5877 0 (.aload_n 0, 0, 0, 0, []) := io_plain (by decide +kernel) rfl
theorem r_Jx4a65c_grow_d5877_1 : IOK WB AD SR FW TB md_Jx4a65c_grow_d5877 1 (.aload_n 0, 0, 0, 0, []) := io_plain (by decide +kernel) rfl
theorem r_Jx4a65c_grow_d5877_2 : IOK WB AD SR FW TB md_Jx4a65c_grow_d5877 2 (.getfield 48, 0, 2, 0, []) := io_get (by decide +kernel) fo_RJx4a65c_48
theorem r_Jx4a65c_grow_d5877_5 : IOK WB AD SR FW TB md_Jx4a65c_grow_d5877 5 (.iconst 1, 0, 0, 0, []) := io_plain (by decide +kernel) rfl
theorem r_Jx4a65c_grow_d5877_6 : IOK WB AD SR FW TB md_Jx4a65c_grow_d5877 6 (.iadd, 0, 0, 0, []) := io_plain (by decide +kernel) rfl
theorem r_Jx4a65c_grow_d5877_7 : IOK WB AD SR FW TB md_Jx4a65c_grow_d5877 7 (.invokevirtual 69, 88, 0, 0, []) := io_virt (by decide +kernel) tb_Jx4a65c_grow_92f84 (Or.inl (wb_9 26 rfl rfl)) in_Jx4a65c_grow_92f84 se_Jx4a65c_grow_92f84 ⟨_, rfl, rfl⟩ pr_Jx4a65c_grow_92f84 (by decide)
theorem r_Jx4a65c_grow_d5877_10 : IOK WB AD SR FW TB md_Jx4a65c_grow_d5877 10 (.areturn, 0, 0, 0, []) := io_aret (by decide +kernel) rfl
set_option maxRecDepth 100000 in
theorem ok_Jx4a65c_grow_d5877_0 : ∀ q ∈ tl_Jx4a65c_grow_d5877, IOK WB AD SR FW TB md_Jx4a65c_grow_d5877 q.1 q.2 := List.forall_mem_cons.mpr ⟨r_Jx4a65c_grow_d5877_0, List.forall_mem_cons.mpr ⟨r_Jx4a65c_grow_d5877_1, List.forall_mem_cons.mpr ⟨r_Jx4a65c_grow_d5877_2, List.forall_mem_cons.mpr ⟨r_Jx4a65c_grow_d5877_5, List.forall_mem_cons.mpr ⟨r_Jx4a65c_grow_d5877_6, List.forall_mem_cons.mpr ⟨r_Jx4a65c_grow_d5877_7, List.forall_mem_cons.mpr ⟨r_Jx4a65c_grow_d5877_10, fun _ h => absurd h List.not_mem_nil⟩⟩⟩⟩⟩⟩⟩
set_option maxRecDepth 100000 in
theorem tq_Jx4a65c_grow_d5877_0 : tf_Jx4a65c_grow_d5877 = tl_Jx4a65c_grow_d5877.map (fun q => (q.1, stepOf NPf md_Jx4a65c_grow_d5877 q.2)) := rfl
theorem ro_Jx4a65c_grow_d5877 : RowsOK (md_Jx4a65c_grow_d5877, tl_Jx4a65c_grow_d5877) tf_Jx4a65c_grow_d5877 := ⟨tq_Jx4a65c_grow_d5877_0, ok_Jx4a65c_grow_d5877_0⟩
theorem r_X8_canBeLeft_0 : IOK WB AD SR FW TB md_X8_canBeLeft 0 (.aload_n 0, 0, 0, 0, []) := io_plain (by decide +kernel) rfl
theorem r_X8_canBeLeft_1 : IOK WB AD SR FW TB md_X8_canBeLeft 1 (.getfield 9, 9, 1, 2, []) := io_get (by decide +kernel) fo_RX8_9
theorem r_X8_canBeLeft_4 : IOK WB AD SR FW TB md_X8_canBeLeft 4 (.iload_n 1, 0, 0, 0, []) := io_plain (by decide +kernel) rfl
theorem r_X8_canBeLeft_5 : IOK WB AD SR FW TB md_X8_canBeLeft 5 (.iaload, 0, 0, 0, []) := io_plain (by decide +kernel) rfl
theorem r_X8_canBeLeft_6 : IOK WB AD SR FW TB md_X8_canBeLeft 6 (.bipush 32, 0, 0, 0, []) := io_plain (by decide +kernel) rfl
theorem r_X8_canBeLeft_8 : IOK WB AD SR FW TB md_X8_canBeLeft 8 (.if_icmp .lt 15, 0, 0, 0, []) := io_plain (by decide +kernel) rfl
theorem r_X8_canBeLeft_11 : IOK WB AD SR FW TB md_X8_canBeLeft 11 (.aload_n 0, 0, 0, 0, []) := io_plain (by decide +kernel) rfl
theorem r_X8_canBeLeft_12 : IOK WB AD SR FW TB md_X8_canBeLeft 12 (.iload_n 1, 0, 0, 0, []) := io_plain (by decide +kernel) rfl
theorem r_X8_canBeLeft_13 : IOK WB AD SR FW TB md_X8_canBeLeft 13 (.invokevirtual 75, 105, 9, 0, []) := io_virt (by decide +kernel) tb_X8_canBePattern (Or.inl (wb_4 162 rfl rfl)) in_X8_canBePattern se_X8_canBePattern ⟨_, rfl, rfl⟩ pr_X8_canBePattern (by decide)
theorem r_X8_canBeLeft_16 : IOK WB AD SR FW TB md_X8_canBeLeft 16 (.ifCond .eq 7, 0, 0, 0, []) := io_plain (by decide +kernel) rfl
theorem r_X8_canBeLeft_19 : IOK WB AD SR FW TB md_X8_canBeLeft 19 (.iconst 1, 0, 0, 0, []) := io_plain (by decide +kernel) rfl
theorem r_X8_canBeLeft_20 : IOK WB AD SR FW TB md_X8_canBeLeft 20 (.goto 4, 0, 0, 0, []) := io_plain (by decide +kernel) rfl
theorem r_X8_canBeLeft_24 : IOK WB AD SR FW TB md_X8_canBeLeft 24 (.ireturn, 0, 0, 0, []) := io_plain (by decide +kernel) rfl
set_option maxRecDepth 100000 in
theorem ok_X8_canBeLeft_0 : ∀ q ∈ tl_X8_canBeLeft, IOK WB AD SR FW TB md_X8_canBeLeft q.1 q.2 := List.forall_mem_cons.mpr ⟨r_X8_canBeLeft_0, List.forall_mem_cons.mpr ⟨r_X8_canBeLeft_1, List.forall_mem_cons.mpr ⟨r_X8_canBeLeft_4, List.forall_mem_cons.mpr ⟨r_X8_canBeLeft_5, List.forall_mem_cons.mpr ⟨r_X8_canBeLeft_6, List.forall_mem_cons.mpr ⟨r_X8_canBeLeft_8, List.forall_mem_cons.mpr ⟨r_X8_canBeLeft_11, List.forall_mem_cons.mpr ⟨r_X8_canBeLeft_12, List.forall_mem_cons.mpr ⟨r_X8_canBeLeft_13, List.forall_mem_cons.mpr ⟨r_X8_canBeLeft_16, List.forall_mem_cons.mpr ⟨r_X8_canBeLeft_19, List.forall_mem_cons.mpr ⟨r_X8_canBeLeft_20, List.forall_mem_cons.mpr ⟨r_X8_canBeLeft_24, fun _ h => absurd h List.not_mem_nil⟩⟩⟩⟩⟩⟩⟩⟩⟩⟩⟩⟩⟩
set_option maxRecDepth 100000 in
theorem tq_X8_canBeLeft_0 : tf_X8_canBeLeft = tl_X8_canBeLeft.map (fun q => (q.1, stepOf NPf md_X8_canBeLeft q.2)) := rfl
theorem ro_X8_canBeLeft : RowsOK (md_X8_canBeLeft, tl_X8_canBeLeft) tf_X8_canBeLeft := ⟨tq_X8_canBeLeft_0, ok_X8_canBeLeft_0⟩
theorem r_L_tell_0 : IOK WB AD SR FW TB md_L_tell 0 (.aload_n 3, 0, 0, 0, []) := io_plain (by decide +kernel) rfl
theorem r_L_tell_1 : IOK WB AD SR FW TB md_L_tell 1 (.iconst 0, 0, 0, 0, []) := io_plain (by decide +kernel) rfl
theorem r_L_tell_2 : IOK WB AD SR FW TB md_L_tell 2 (.aload_n 0, 0, 0, 0, []) := io_plain (by decide +kernel) rfl
theorem r_L_tell_3 : IOK WB AD SR FW TB md_L_tell 3 (.iload_n 1, 0, 0, 0, []) := io_plain (by decide +kernel) rfl
theorem r_L_tell_4 : IOK WB AD SR FW TB md_L_tell 4 (.iload_n 2, 0, 0, 0, []) := io_plain (by decide +kernel) rfl
theorem r_L_tell_5 : IOK WB AD SR FW TB md_L_tell 5 (.invokevirtual 63, 77, 11, 0, []) := io_virt (by decide +kernel) tb_X10_tell (Or.inl (wb_5 229 rfl rfl)) in_X10_tell se_X10_tell ⟨_, rfl, rfl⟩ pr_X10_tell (by decide)
theorem r_L_tell_8 : IOK WB AD SR FW TB md_L_tell 8 (.i2l, 0, 0, 0, []) := io_plain (by decide +kernel) rfl
theorem r_L_tell_9 : IOK WB AD SR FW TB md_L_tell 9 (.lastore, 0, 0, 0, []) := io_plain (by decide +kernel) rfl
theorem r_L_tell_10 : IOK WB AD SR FW TB md_L_tell 10 (.goto 7, 0, 0, 0, []) := io_plain (by decide +kernel) rfl
theorem r_L_tell_17 : IOK WB AD SR FW TB md_L_tell 17 (.iconst 0, 0, 0, 0, []) := io_plain (by decide +kernel) rfl
theorem r_L_tell_18 : IOK WB AD SR FW TB md_L_tell 18 (.ireturn, 0, 0, 0, []) := io_plain (by decide +kernel) rfl
set_option maxRecDepth 100000 in
theorem ok_L_tell_0 : ∀ q ∈ tl_L_tell, IOK WB AD SR FW TB md_L_tell q.1 q.2 := List.forall_mem_cons.mpr ⟨r_L_tell_0, List.forall_mem_cons.mpr ⟨r_L_tell_1, List.forall_mem_cons.mpr ⟨r_L_tell_2, List.forall_mem_cons.mpr ⟨r_L_tell_3, List.forall_mem_cons.mpr ⟨r_L_tell_4, List.forall_mem_cons.mpr ⟨r_L_tell_5, List.forall_mem_cons.mpr ⟨r_L_tell_8, List.forall_mem_cons.mpr ⟨r_L_tell_9, List.forall_mem_cons.mpr ⟨r_L_tell_10, List.forall_mem_cons.mpr ⟨r_L_tell_17, List.forall_mem_cons.mpr ⟨r_L_tell_18, fun _ h => absurd h List.not_mem_nil⟩⟩⟩⟩⟩⟩⟩⟩⟩⟩⟩
set_option maxRecDepth 100000 in
theorem tq_L_tell_0 : tf_L_tell = tl_L_tell.map (fun q => (q.1, stepOf NPf md_L_tell q.2)) := rfl
theorem ro_L_tell : RowsOK (md_L_tell, tl_L_tell) tf_L_tell := ⟨tq_L_tell_0, ok_L_tell_0⟩
theorem r_X17_top_0 : IOK WB AD SR FW TB md_X17_top 0 (.aload_n 0, 0, 0, 0, []) := io_plain (by decide +kernel) rfl
theorem r_X17_top_1 : IOK WB AD SR FW TB md_X17_top 1 (.getfield 44, 18, 13, 2, []) := io_get (by decide +kernel) fo_RX17_44
theorem r_X17_top_4 : IOK WB AD SR FW TB md_X17_top 4 (.aload_n 0, 0, 0, 0, []) := io_plain (by decide +kernel) rfl
theorem r_X17_top_5 : IOK WB AD SR FW TB md_X17_top 5 (.getfield 44, 18, 13, 2, []) := io_get (by decide +kernel) fo_RX17_44
theorem r_X17_top_8 : IOK WB AD SR FW TB md_X17_top 8 (.invokeinterface 271 1, 24, 0, 0, []) := io_face (by decide +kernel) tb_Jx4a65c_size_8abf5 (List.mem_of_getElem? (i := 0) rfl) (wb_8 32 rfl rfl) in_Jx4a65c_size_8abf5 (wb_8 35 rfl rfl) rfl rfl rfl pr_Jx4a65c_size_8abf5 (by decide)
theorem r_X17_top_13 : IOK WB AD SR FW TB md_X17_top 13 (.iconst 1, 0, 0, 0, []) := io_plain (by decide +kernel) rfl
theorem r_X17_top_14 : IOK WB AD SR FW TB md_X17_top 14 (.isub, 0, 0, 0, []) := io_plain (by decide +kernel) rfl
theorem r_X17_top_15 : IOK WB AD SR FW TB md_X17_top 15 (.invokeinterface 275 2, 51, 0, 0, []) := io_face (by decide +kernel) tb_Jx4a65c_get_915e3 (List.mem_of_getElem? (i := 1) rfl) (wb_8 146 rfl rfl) in_Jx4a65c_get_915e3 (wb_8 149 rfl rfl) rfl rfl rfl pr_Jx4a65c_get_915e3 (by decide)
theorem r_X17_top_20 : IOK WB AD SR FW TB md_X17_top 20 (.checkcast 48, 17, 0, 0, []) := io_cast (by decide +kernel) ⟨_, rfl, (wb_7 72 rfl rfl)⟩
