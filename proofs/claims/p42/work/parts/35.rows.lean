theorem r_X7_addDeclaration_69 : IOK WB AD SR FW TB md_X7_addDeclaration 69 (.iaload, 0, 0, 0, []) := io_plain (by decide +kernel) rfl
theorem r_X7_addDeclaration_70 : IOK WB AD SR FW TB md_X7_addDeclaration 70 (.ireturn, 0, 0, 0, []) := io_plain (by decide +kernel) rfl
set_option maxRecDepth 100000 in
theorem ok_X7_addDeclaration_0 : ∀ q ∈ tl_X7_addDeclaration_0, IOK WB AD SR FW TB md_X7_addDeclaration q.1 q.2 := List.forall_mem_cons.mpr ⟨r_X7_addDeclaration_0, List.forall_mem_cons.mpr ⟨r_X7_addDeclaration_1, List.forall_mem_cons.mpr ⟨r_X7_addDeclaration_2, List.forall_mem_cons.mpr ⟨r_X7_addDeclaration_3, List.forall_mem_cons.mpr ⟨r_X7_addDeclaration_4, List.forall_mem_cons.mpr ⟨r_X7_addDeclaration_7, List.forall_mem_cons.mpr ⟨r_X7_addDeclaration_8, List.forall_mem_cons.mpr ⟨r_X7_addDeclaration_9, List.forall_mem_cons.mpr ⟨r_X7_addDeclaration_10, List.forall_mem_cons.mpr ⟨r_X7_addDeclaration_11, List.forall_mem_cons.mpr ⟨r_X7_addDeclaration_12, List.forall_mem_cons.mpr ⟨r_X7_addDeclaration_14, List.forall_mem_cons.mpr ⟨r_X7_addDeclaration_15, List.forall_mem_cons.mpr ⟨r_X7_addDeclaration_18, List.forall_mem_cons.mpr ⟨r_X7_addDeclaration_20, List.forall_mem_cons.mpr ⟨r_X7_addDeclaration_21, List.forall_mem_cons.mpr ⟨r_X7_addDeclaration_22, List.forall_mem_cons.mpr ⟨r_X7_addDeclaration_23, List.forall_mem_cons.mpr ⟨r_X7_addDeclaration_26, List.forall_mem_cons.mpr ⟨r_X7_addDeclaration_28, List.forall_mem_cons.mpr ⟨r_X7_addDeclaration_29, List.forall_mem_cons.mpr ⟨r_X7_addDeclaration_30, List.forall_mem_cons.mpr ⟨r_X7_addDeclaration_31, List.forall_mem_cons.mpr ⟨r_X7_addDeclaration_32, List.forall_mem_cons.mpr ⟨r_X7_addDeclaration_33, List.forall_mem_cons.mpr ⟨r_X7_addDeclaration_36, List.forall_mem_cons.mpr ⟨r_X7_addDeclaration_38, List.forall_mem_cons.mpr ⟨r_X7_addDeclaration_39, List.forall_mem_cons.mpr ⟨r_X7_addDeclaration_40, List.forall_mem_cons.mpr ⟨r_X7_addDeclaration_42, List.forall_mem_cons.mpr ⟨r_X7_addDeclaration_43, List.forall_mem_cons.mpr ⟨r_X7_addDeclaration_44, List.forall_mem_cons.mpr ⟨r_X7_addDeclaration_47, List.forall_mem_cons.mpr ⟨r_X7_addDeclaration_49, List.forall_mem_cons.mpr ⟨r_X7_addDeclaration_50, List.forall_mem_cons.mpr ⟨r_X7_addDeclaration_51, List.forall_mem_cons.mpr ⟨r_X7_addDeclaration_53, List.forall_mem_cons.mpr ⟨r_X7_addDeclaration_54, List.forall_mem_cons.mpr ⟨r_X7_addDeclaration_55, List.forall_mem_cons.mpr ⟨r_X7_addDeclaration_58, fun _ h => absurd h List.not_mem_nil⟩⟩⟩⟩⟩⟩⟩⟩⟩⟩⟩⟩⟩⟩⟩⟩⟩⟩⟩⟩⟩⟩⟩⟩⟩⟩⟩⟩⟩⟩⟩⟩⟩⟩⟩⟩⟩⟩⟩⟩
set_option maxRecDepth 100000 in
theorem tq_X7_addDeclaration_0 : tf_X7_addDeclaration_0 = tl_X7_addDeclaration_0.map (fun q => (q.1, stepOf NPf md_X7_addDeclaration q.2)) := rfl
set_option maxRecDepth 100000 in
theorem ok_X7_addDeclaration_1 : ∀ q ∈ tl_X7_addDeclaration_1, IOK WB AD SR FW TB md_X7_addDeclaration q.1 q.2 := List.forall_mem_cons.mpr ⟨r_X7_addDeclaration_59, List.forall_mem_cons.mpr ⟨r_X7_addDeclaration_60, List.forall_mem_cons.mpr ⟨r_X7_addDeclaration_61, List.forall_mem_cons.mpr ⟨r_X7_addDeclaration_62, List.forall_mem_cons.mpr ⟨r_X7_addDeclaration_63, List.forall_mem_cons.mpr ⟨r_X7_addDeclaration_64, List.forall_mem_cons.mpr ⟨r_X7_addDeclaration_65, List.forall_mem_cons.mpr ⟨r_X7_addDeclaration_68, List.forall_mem_cons.mpr ⟨r_X7_addDeclaration_69, List.forall_mem_cons.mpr ⟨r_X7_addDeclaration_70, fun _ h => absurd h List.not_mem_nil⟩⟩⟩⟩⟩⟩⟩⟩⟩⟩
set_option maxRecDepth 100000 in
theorem tq_X7_addDeclaration_1 : tf_X7_addDeclaration_1 = tl_X7_addDeclaration_1.map (fun q => (q.1, stepOf NPf md_X7_addDeclaration q.2)) := rfl
theorem ro_X7_addDeclaration : RowsOK (md_X7_addDeclaration, tl_X7_addDeclaration) tf_X7_addDeclaration := rows_app ⟨tq_X7_addDeclaration_0, ok_X7_addDeclaration_0⟩ (⟨tq_X7_addDeclaration_1, ok_X7_addDeclaration_1⟩)
theorem r_X10_declare_0 : IOK WB AD SR FW TB md_X10_declare 0 (.aload_n 0, 0, 0, 0, []) := io_plain (by decide +kernel) rfl
theorem r_X10_declare_1 : IOK WB AD SR FW TB md_X10_declare 1 (.getfield 12, 10, 0, 2, []) := io_get (by decide +kernel) fo_RX10_12
theorem r_X10_declare_4 : IOK WB AD SR FW TB md_X10_declare 4 (.iload_n 1, 0, 0, 0, []) := io_plain (by decide +kernel) rfl
theorem r_X10_declare_5 : IOK WB AD SR FW TB md_X10_declare 5 (.invokevirtual 126, 16, 7, 0, []) := io_virt (by decide +kernel) tb_X7_hasOperator (Or.inl (wb_3 109 rfl rfl)) in_X7_hasOperator se_X7_hasOperator ⟨_, rfl, rfl⟩ pr_X7_hasOperator (by decide)
theorem r_X10_declare_8 : IOK WB AD SR FW TB md_X10_declare 8 (.ifCond .eq 14, 0, 0, 0, []) := io_plain (by decide +kernel) rfl
theorem r_X10_declare_11 : IOK WB AD SR FW TB md_X10_declare 11 (.aload_n 0, 0, 0, 0, []) := io_plain (by decide +kernel) rfl
theorem r_X10_declare_12 : IOK WB AD SR FW TB md_X10_declare 12 (.getfield 12, 10, 0, 2, []) := io_get (by decide +kernel) fo_RX10_12
theorem r_X10_declare_15 : IOK WB AD SR FW TB md_X10_declare 15 (.iload_n 2, 0, 0, 0, []) := io_plain (by decide +kernel) rfl
theorem r_X10_declare_16 : IOK WB AD SR FW TB md_X10_declare 16 (.invokevirtual 89, 12, 7, 0, []) := io_virt (by decide +kernel) tb_X7_hasSort (Or.inl (wb_3 156 rfl rfl)) in_X7_hasSort se_X7_hasSort ⟨_, rfl, rfl⟩ pr_X7_hasSort (by decide)
theorem r_X10_declare_19 : IOK WB AD SR FW TB md_X10_declare 19 (.ifCond .ne 13, 0, 0, 0, []) := io_plain (by decide +kernel) rfl
theorem r_X10_declare_32 : IOK WB AD SR FW TB md_X10_declare 32 (.aload_n 0, 0, 0, 0, []) := io_plain (by decide +kernel) rfl
theorem r_X10_declare_33 : IOK WB AD SR FW TB md_X10_declare 33 (.getfield 12, 10, 0, 2, []) := io_get (by decide +kernel) fo_RX10_12
theorem r_X10_declare_36 : IOK WB AD SR FW TB md_X10_declare 36 (.getfield 135, 7, 4, 2, []) := io_get (by decide +kernel) fo_RX10_135
theorem r_X10_declare_39 : IOK WB AD SR FW TB md_X10_declare 39 (.iload_n 1, 0, 0, 0, []) := io_plain (by decide +kernel) rfl
theorem r_X10_declare_40 : IOK WB AD SR FW TB md_X10_declare 40 (.iaload, 0, 0, 0, []) := io_plain (by decide +kernel) rfl
theorem r_X10_declare_41 : IOK WB AD SR FW TB md_X10_declare 41 (.istore 6, 0, 0, 0, []) := io_plain (by decide +kernel) rfl
theorem r_X10_declare_43 : IOK WB AD SR FW TB md_X10_declare 43 (.iload 6, 0, 0, 0, []) := io_plain (by decide +kernel) rfl
theorem r_X10_declare_45 : IOK WB AD SR FW TB md_X10_declare 45 (.ifCond .le 14, 0, 0, 0, []) := io_plain (by decide +kernel) rfl
theorem r_X10_declare_48 : IOK WB AD SR FW TB md_X10_declare 48 (.aload_n 0, 0, 0, 0, []) := io_plain (by decide +kernel) rfl
theorem r_X10_declare_49 : IOK WB AD SR FW TB md_X10_declare 49 (.getfield 12, 10, 0, 2, []) := io_get (by decide +kernel) fo_RX10_12
theorem r_X10_declare_52 : IOK WB AD SR FW TB md_X10_declare 52 (.iload_n 3, 0, 0, 0, []) := io_plain (by decide +kernel) rfl
theorem r_X10_declare_53 : IOK WB AD SR FW TB md_X10_declare 53 (.invokevirtual 89, 12, 7, 0, []) := io_virt (by decide +kernel) tb_X7_hasSort (Or.inl (wb_3 156 rfl rfl)) in_X7_hasSort se_X7_hasSort ⟨_, rfl, rfl⟩ pr_X7_hasSort (by decide)
theorem r_X10_declare_56 : IOK WB AD SR FW TB md_X10_declare 56 (.ifCond .eq 39, 0, 0, 0, []) := io_plain (by decide +kernel) rfl
theorem r_X10_declare_59 : IOK WB AD SR FW TB md_X10_declare 59 (.iload 6, 0, 0, 0, []) := io_plain (by decide +kernel) rfl
theorem r_X10_declare_61 : IOK WB AD SR FW TB md_X10_declare 61 (.iconst 1, 0, 0, 0, []) := io_plain (by decide +kernel) rfl
theorem r_X10_declare_62 : IOK WB AD SR FW TB md_X10_declare 62 (.if_icmp .le 15, 0, 0, 0, []) := io_plain (by decide +kernel) rfl
theorem r_X10_declare_65 : IOK WB AD SR FW TB md_X10_declare 65 (.aload_n 0, 0, 0, 0, []) := io_plain (by decide +kernel) rfl
theorem r_X10_declare_66 : IOK WB AD SR FW TB md_X10_declare 66 (.getfield 12, 10, 0, 2, []) := io_get (by decide +kernel) fo_RX10_12
theorem r_X10_declare_69 : IOK WB AD SR FW TB md_X10_declare 69 (.iload 4, 0, 0, 0, []) := io_plain (by decide +kernel) rfl
theorem r_X10_declare_71 : IOK WB AD SR FW TB md_X10_declare 71 (.invokevirtual 89, 12, 7, 0, []) := io_virt (by decide +kernel) tb_X7_hasSort (Or.inl (wb_3 156 rfl rfl)) in_X7_hasSort se_X7_hasSort ⟨_, rfl, rfl⟩ pr_X7_hasSort (by decide)
theorem r_X10_declare_74 : IOK WB AD SR FW TB md_X10_declare 74 (.ifCond .eq 21, 0, 0, 0, []) := io_plain (by decide +kernel) rfl
theorem r_X10_declare_77 : IOK WB AD SR FW TB md_X10_declare 77 (.iload 6, 0, 0, 0, []) := io_plain (by decide +kernel) rfl
theorem r_X10_declare_79 : IOK WB AD SR FW TB md_X10_declare 79 (.iconst 2, 0, 0, 0, []) := io_plain (by decide +kernel) rfl
theorem r_X10_declare_80 : IOK WB AD SR FW TB md_X10_declare 80 (.if_icmp .le 25, 0, 0, 0, []) := io_plain (by decide +kernel) rfl
theorem r_X10_declare_105 : IOK WB AD SR FW TB md_X10_declare 105 (.aload_n 0, 0, 0, 0, []) := io_plain (by decide +kernel) rfl
theorem r_X10_declare_106 : IOK WB AD SR FW TB md_X10_declare 106 (.getfield 12, 10, 0, 2, []) := io_get (by decide +kernel) fo_RX10_12
theorem r_X10_declare_109 : IOK WB AD SR FW TB md_X10_declare 109 (.getfield 151, 7, 7, 2, []) := io_get (by decide +kernel) fo_RX10_151
theorem r_X10_declare_112 : IOK WB AD SR FW TB md_X10_declare 112 (.iload_n 1, 0, 0, 0, []) := io_plain (by decide +kernel) rfl
theorem r_X10_declare_113 : IOK WB AD SR FW TB md_X10_declare 113 (.iaload, 0, 0, 0, []) := io_plain (by decide +kernel) rfl
theorem r_X10_declare_114 : IOK WB AD SR FW TB md_X10_declare 114 (.iconst 3, 0, 0, 0, []) := io_plain (by decide +kernel) rfl
theorem r_X10_declare_115 : IOK WB AD SR FW TB md_X10_declare 115 (.if_icmp .ge 13, 0, 0, 0, []) := io_plain (by decide +kernel) rfl
theorem r_X10_declare_118 : IOK WB AD SR FW TB md_X10_declare 118 (.aload_n 0, 0, 0, 0, []) := io_plain (by decide +kernel) rfl
theorem r_X10_declare_119 : IOK WB AD SR FW TB md_X10_declare 119 (.getfield 30, 10, 2, 2, []) := io_get (by decide +kernel) fo_RX10_30
theorem r_X10_declare_122 : IOK WB AD SR FW TB md_X10_declare 122 (.invokevirtual 116, 20, 2, 0, []) := io_virt (by decide +kernel) tb_X2_areTold (Or.inl (wb_3 162 rfl rfl)) in_X2_areTold se_X2_areTold ⟨_, rfl, rfl⟩ pr_X2_areTold (by decide)
theorem r_X10_declare_125 : IOK WB AD SR FW TB md_X10_declare 125 (.ifCond .eq 13, 0, 0, 0, []) := io_plain (by decide +kernel) rfl
theorem r_X10_declare_138 : IOK WB AD SR FW TB md_X10_declare 138 (.aload_n 0, 0, 0, 0, []) := io_plain (by decide +kernel) rfl
theorem r_X10_declare_139 : IOK WB AD SR FW TB md_X10_declare 139 (.getfield 12, 10, 0, 2, []) := io_get (by decide +kernel) fo_RX10_12
theorem r_X10_declare_142 : IOK WB AD SR FW TB md_X10_declare 142 (.iload_n 1, 0, 0, 0, []) := io_plain (by decide +kernel) rfl
theorem r_X10_declare_143 : IOK WB AD SR FW TB md_X10_declare 143 (.iload_n 2, 0, 0, 0, []) := io_plain (by decide +kernel) rfl
theorem r_X10_declare_144 : IOK WB AD SR FW TB md_X10_declare 144 (.iload_n 3, 0, 0, 0, []) := io_plain (by decide +kernel) rfl
theorem r_X10_declare_145 : IOK WB AD SR FW TB md_X10_declare 145 (.iload 4, 0, 0, 0, []) := io_plain (by decide +kernel) rfl
theorem r_X10_declare_147 : IOK WB AD SR FW TB md_X10_declare 147 (.iload 5, 0, 0, 0, []) := io_plain (by decide +kernel) rfl
theorem r_X10_declare_149 : IOK WB AD SR FW TB md_X10_declare 149 (.invokevirtual 156, 4, 7, 0, []) := io_virt (by decide +kernel) tb_X7_addDeclaration (Or.inl (wb_3 167 rfl rfl)) in_X7_addDeclaration se_X7_addDeclaration ⟨_, rfl, rfl⟩ pr_X7_addDeclaration (by decide)
theorem r_X10_declare_152 : IOK WB AD SR FW TB md_X10_declare 152 (.ireturn, 0, 0, 0, []) := io_plain (by decide +kernel) rfl
set_option maxRecDepth 100000 in
theorem ok_X10_declare_0 : ∀ q ∈ tl_X10_declare_0, IOK WB AD SR FW TB md_X10_declare q.1 q.2 := List.forall_mem_cons.mpr ⟨r_X10_declare_0, List.forall_mem_cons.mpr ⟨r_X10_declare_1, List.forall_mem_cons.mpr ⟨r_X10_declare_4, List.forall_mem_cons.mpr ⟨r_X10_declare_5, List.forall_mem_cons.mpr ⟨r_X10_declare_8, List.forall_mem_cons.mpr ⟨r_X10_declare_11, List.forall_mem_cons.mpr ⟨r_X10_declare_12, List.forall_mem_cons.mpr ⟨r_X10_declare_15, List.forall_mem_cons.mpr ⟨r_X10_declare_16, List.forall_mem_cons.mpr ⟨r_X10_declare_19, List.forall_mem_cons.mpr ⟨r_X10_declare_32, List.forall_mem_cons.mpr ⟨r_X10_declare_33, List.forall_mem_cons.mpr ⟨r_X10_declare_36, List.forall_mem_cons.mpr ⟨r_X10_declare_39, List.forall_mem_cons.mpr ⟨r_X10_declare_40, List.forall_mem_cons.mpr ⟨r_X10_declare_41, List.forall_mem_cons.mpr ⟨r_X10_declare_43, List.forall_mem_cons.mpr ⟨r_X10_declare_45, List.forall_mem_cons.mpr ⟨r_X10_declare_48, List.forall_mem_cons.mpr ⟨r_X10_declare_49, List.forall_mem_cons.mpr ⟨r_X10_declare_52, List.forall_mem_cons.mpr ⟨r_X10_declare_53, List.forall_mem_cons.mpr ⟨r_X10_declare_56, List.forall_mem_cons.mpr ⟨r_X10_declare_59, List.forall_mem_cons.mpr ⟨r_X10_declare_61, List.forall_mem_cons.mpr ⟨r_X10_declare_62, List.forall_mem_cons.mpr ⟨r_X10_declare_65, List.forall_mem_cons.mpr ⟨r_X10_declare_66, List.forall_mem_cons.mpr ⟨r_X10_declare_69, List.forall_mem_cons.mpr ⟨r_X10_declare_71, List.forall_mem_cons.mpr ⟨r_X10_declare_74, List.forall_mem_cons.mpr ⟨r_X10_declare_77, List.forall_mem_cons.mpr ⟨r_X10_declare_79, List.forall_mem_cons.mpr ⟨r_X10_declare_80, List.forall_mem_cons.mpr ⟨r_X10_declare_105, List.forall_mem_cons.mpr ⟨r_X10_declare_106, List.forall_mem_cons.mpr ⟨r_X10_declare_109, List.forall_mem_cons.mpr ⟨r_X10_declare_112, List.forall_mem_cons.mpr ⟨r_X10_declare_113, List.forall_mem_cons.mpr ⟨r_X10_declare_114, fun _ h => absurd h List.not_mem_nil⟩⟩⟩⟩⟩⟩⟩⟩⟩⟩⟩⟩⟩⟩⟩⟩⟩⟩⟩⟩⟩⟩⟩⟩⟩⟩⟩⟩⟩⟩⟩⟩⟩⟩⟩⟩⟩⟩⟩⟩
set_option maxRecDepth 100000 in
theorem tq_X10_declare_0 : tf_X10_declare_0 = tl_X10_declare_0.map (fun q => (q.1, stepOf NPf md_X10_declare q.2)) := rfl
set_option maxRecDepth 100000 in
theorem ok_X10_declare_1 : ∀ q ∈ tl_X10_declare_1, IOK WB AD SR FW TB md_X10_declare q.1 q.2 := List.forall_mem_cons.mpr ⟨r_X10_declare_115, List.forall_mem_cons.mpr ⟨r_X10_declare_118, List.forall_mem_cons.mpr ⟨r_X10_declare_119, List.forall_mem_cons.mpr ⟨r_X10_declare_122, List.forall_mem_cons.mpr ⟨r_X10_declare_125, List.forall_mem_cons.mpr ⟨r_X10_declare_138, List.forall_mem_cons.mpr ⟨r_X10_declare_139, List.forall_mem_cons.mpr ⟨r_X10_declare_142, List.forall_mem_cons.mpr ⟨r_X10_declare_143, List.forall_mem_cons.mpr ⟨r_X10_declare_144, List.forall_mem_cons.mpr ⟨r_X10_declare_145, List.forall_mem_cons.mpr ⟨r_X10_declare_147, List.forall_mem_cons.mpr ⟨r_X10_declare_149, List.forall_mem_cons.mpr ⟨r_X10_declare_152, fun _ h => absurd h List.not_mem_nil⟩⟩⟩⟩⟩⟩⟩⟩⟩⟩⟩⟩⟩⟩
set_option maxRecDepth 100000 in
theorem tq_X10_declare_1 : tf_X10_declare_1 = tl_X10_declare_1.map (fun q => (q.1, stepOf NPf md_X10_declare q.2)) := rfl
theorem ro_X10_declare : RowsOK (md_X10_declare, tl_X10_declare) tf_X10_declare := rows_app ⟨tq_X10_declare_0, ok_X10_declare_0⟩ (⟨tq_X10_declare_1, ok_X10_declare_1⟩)
theorem r_X8_write_0 : IOK WB AD SR FW TB md_X8_write 0 (.aload_n 0, 0, 0, 0, []) := io_plain (by decide +kernel) rfl
theorem r_X8_write_1 : IOK WB AD SR FW TB md_X8_write 1 (.getfield 15, 8, 2, 0, []) := io_get (by decide +kernel) fo_RX8_15
theorem r_X8_write_4 : IOK WB AD SR FW TB md_X8_write 4 (.istore_n 3, 0, 0, 0, []) := io_plain (by decide +kernel) rfl
theorem r_X8_write_5 : IOK WB AD SR FW TB md_X8_write 5 (.iload_n 3, 0, 0, 0, []) := io_plain (by decide +kernel) rfl
theorem r_X8_write_6 : IOK WB AD SR FW TB md_X8_write 6 (.sipush 27460, 0, 0, 0, []) := io_plain (by decide +kernel) rfl
theorem r_X8_write_9 : IOK WB AD SR FW TB md_X8_write 9 (.if_icmp .lt 5, 0, 0, 0, []) := io_plain (by decide +kernel) rfl
theorem r_X8_write_14 : IOK WB AD SR FW TB md_X8_write 14 (.aload_n 0, 0, 0, 0, []) := io_plain (by decide +kernel) rfl
theorem r_X8_write_15 : IOK WB AD SR FW TB md_X8_write 15 (.getfield 9, 8, 1, 2, []) := io_get (by decide +kernel) fo_RX8_9
theorem r_X8_write_18 : IOK WB AD SR FW TB md_X8_write 18 (.iload_n 3, 0, 0, 0, []) := io_plain (by decide +kernel) rfl
theorem r_X8_write_19 : IOK WB AD SR FW TB md_X8_write 19 (.iload_n 1, 0, 0, 0, []) := io_plain (by decide +kernel) rfl
theorem r_X8_write_20 : IOK WB AD SR FW TB md_X8_write 20 (.iastore, 0, 0, 0, []) := io_plain (by decide +kernel) rfl
theorem r_X8_write_21 : IOK WB AD SR FW TB md_X8_write 21 (.iload_n 3, 0, 0, 0, []) := io_plain (by decide +kernel) rfl
theorem r_X8_write_22 : IOK WB AD SR FW TB md_X8_write 22 (.iconst 1, 0, 0, 0, []) := io_plain (by decide +kernel) rfl
theorem r_X8_write_23 : IOK WB AD SR FW TB md_X8_write 23 (.iadd, 0, 0, 0, []) := io_plain (by decide +kernel) rfl
theorem r_X8_write_24 : IOK WB AD SR FW TB md_X8_write 24 (.istore 4, 0, 0, 0, []) := io_plain (by decide +kernel) rfl
theorem r_X8_write_26 : IOK WB AD SR FW TB md_X8_write 26 (.iconst 0, 0, 0, 0, []) := io_plain (by decide +kernel) rfl
theorem r_X8_write_27 : IOK WB AD SR FW TB md_X8_write 27 (.istore 5, 0, 0, 0, []) := io_plain (by decide +kernel) rfl
theorem r_X8_write_29 : IOK WB AD SR FW TB md_X8_write 29 (.iload 5, 0, 0, 0, []) := io_plain (by decide +kernel) rfl
theorem r_X8_write_31 : IOK WB AD SR FW TB md_X8_write 31 (.iload_n 2, 0, 0, 0, []) := io_plain (by decide +kernel) rfl
theorem r_X8_write_32 : IOK WB AD SR FW TB md_X8_write 32 (.if_icmp .ge 67, 0, 0, 0, []) := io_plain (by decide +kernel) rfl
theorem r_X8_write_35 : IOK WB AD SR FW TB md_X8_write 35 (.iload 4, 0, 0, 0, []) := io_plain (by decide +kernel) rfl
theorem r_X8_write_37 : IOK WB AD SR FW TB md_X8_write 37 (.iload_n 3, 0, 0, 0, []) := io_plain (by decide +kernel) rfl
theorem r_X8_write_38 : IOK WB AD SR FW TB md_X8_write 38 (.isub, 0, 0, 0, []) := io_plain (by decide +kernel) rfl
theorem r_X8_write_39 : IOK WB AD SR FW TB md_X8_write 39 (.aload_n 0, 0, 0, 0, []) := io_plain (by decide +kernel) rfl
theorem r_X8_write_40 : IOK WB AD SR FW TB md_X8_write 40 (.getfield 25, 8, 6, 2, []) := io_get (by decide +kernel) fo_RX8_25
theorem r_X8_write_43 : IOK WB AD SR FW TB md_X8_write 43 (.iload 5, 0, 0, 0, []) := io_plain (by decide +kernel) rfl
theorem r_X8_write_45 : IOK WB AD SR FW TB md_X8_write 45 (.iaload, 0, 0, 0, []) := io_plain (by decide +kernel) rfl
theorem r_X8_write_46 : IOK WB AD SR FW TB md_X8_write 46 (.iadd, 0, 0, 0, []) := io_plain (by decide +kernel) rfl
theorem r_X8_write_47 : IOK WB AD SR FW TB md_X8_write 47 (.bipush 20, 0, 0, 0, []) := io_plain (by decide +kernel) rfl
theorem r_X8_write_49 : IOK WB AD SR FW TB md_X8_write 49 (.if_icmp .le 5, 0, 0, 0, []) := io_plain (by decide +kernel) rfl
theorem r_X8_write_54 : IOK WB AD SR FW TB md_X8_write 54 (.aload_n 0, 0, 0, 0, []) := io_plain (by decide +kernel) rfl
theorem r_X8_write_55 : IOK WB AD SR FW TB md_X8_write 55 (.getfield 9, 8, 1, 2, []) := io_get (by decide +kernel) fo_RX8_9
theorem r_X8_write_58 : IOK WB AD SR FW TB md_X8_write 58 (.aload_n 0, 0, 0, 0, []) := io_plain (by decide +kernel) rfl
theorem r_X8_write_59 : IOK WB AD SR FW TB md_X8_write 59 (.getfield 22, 8, 5, 2, []) := io_get (by decide +kernel) fo_RX8_22
theorem r_X8_write_62 : IOK WB AD SR FW TB md_X8_write 62 (.iload 5, 0, 0, 0, []) := io_plain (by decide +kernel) rfl
theorem r_X8_write_64 : IOK WB AD SR FW TB md_X8_write 64 (.iaload, 0, 0, 0, []) := io_plain (by decide +kernel) rfl
theorem r_X8_write_65 : IOK WB AD SR FW TB md_X8_write 65 (.aload_n 0, 0, 0, 0, []) := io_plain (by decide +kernel) rfl
theorem r_X8_write_66 : IOK WB AD SR FW TB md_X8_write 66 (.getfield 9, 8, 1, 2, []) := io_get (by decide +kernel) fo_RX8_9
theorem r_X8_write_69 : IOK WB AD SR FW TB md_X8_write 69 (.iload 4, 0, 0, 0, []) := io_plain (by decide +kernel) rfl
theorem r_X8_write_71 : IOK WB AD SR FW TB md_X8_write 71 (.aload_n 0, 0, 0, 0, []) := io_plain (by decide +kernel) rfl
theorem r_X8_write_72 : IOK WB AD SR FW TB md_X8_write 72 (.getfield 25, 8, 6, 2, []) := io_get (by decide +kernel) fo_RX8_25
theorem r_X8_write_75 : IOK WB AD SR FW TB md_X8_write 75 (.iload 5, 0, 0, 0, []) := io_plain (by decide +kernel) rfl
theorem r_X8_write_77 : IOK WB AD SR FW TB md_X8_write 77 (.iaload, 0, 0, 0, []) := io_plain (by decide +kernel) rfl
theorem r_X8_write_78 : IOK WB AD SR FW TB md_X8_write 78 (.invokestatic 61, 1000, 0, 0, []) := io_copy (by decide +kernel) (wb_3 195 rfl rfl) cp_1 cp_2 cp_3
theorem r_X8_write_81 : IOK WB AD SR FW TB md_X8_write 81 (.iload 4, 0, 0, 0, []) := io_plain (by decide +kernel) rfl
theorem r_X8_write_83 : IOK WB AD SR FW TB md_X8_write 83 (.aload_n 0, 0, 0, 0, []) := io_plain (by decide +kernel) rfl
theorem r_X8_write_84 : IOK WB AD SR FW TB md_X8_write 84 (.getfield 25, 8, 6, 2, []) := io_get (by decide +kernel) fo_RX8_25
theorem r_X8_write_87 : IOK WB AD SR FW TB md_X8_write 87 (.iload 5, 0, 0, 0, []) := io_plain (by decide +kernel) rfl
theorem r_X8_write_89 : IOK WB AD SR FW TB md_X8_write 89 (.iaload, 0, 0, 0, []) := io_plain (by decide +kernel) rfl
theorem r_X8_write_90 : IOK WB AD SR FW TB md_X8_write 90 (.iadd, 0, 0, 0, []) := io_plain (by decide +kernel) rfl
theorem r_X8_write_91 : IOK WB AD SR FW TB md_X8_write 91 (.istore 4, 0, 0, 0, []) := io_plain (by decide +kernel) rfl
theorem r_X8_write_93 : IOK WB AD SR FW TB md_X8_write 93 (.iinc 5 1, 0, 0, 0, []) := io_plain (by decide +kernel) rfl
theorem r_X8_write_96 : IOK WB AD SR FW TB md_X8_write 96 (.goto (-67), 0, 0, 0, []) := io_plain (by decide +kernel) rfl
theorem r_X8_write_99 : IOK WB AD SR FW TB md_X8_write 99 (.aload_n 0, 0, 0, 0, []) := io_plain (by decide +kernel) rfl
theorem r_X8_write_100 : IOK WB AD SR FW TB md_X8_write 100 (.iload 4, 0, 0, 0, []) := io_plain (by decide +kernel) rfl
theorem r_X8_write_102 : IOK WB AD SR FW TB md_X8_write 102 (.putfield 15, 8, 2, 0, []) := io_put (by decide +kernel) fo_RX8_15 po_RX8_0_8_2_0
theorem r_X8_write_105 : IOK WB AD SR FW TB md_X8_write 105 (.iload_n 3, 0, 0, 0, []) := io_plain (by decide +kernel) rfl
theorem r_X8_write_106 : IOK WB AD SR FW TB md_X8_write 106 (.ireturn, 0, 0, 0, []) := io_plain (by decide +kernel) rfl
set_option maxRecDepth 100000 in
theorem ok_X8_write_0 : ∀ q ∈ tl_X8_write_0, IOK WB AD SR FW TB md_X8_write q.1 q.2 := List.forall_mem_cons.mpr ⟨r_X8_write_0, List.forall_mem_cons.mpr ⟨r_X8_write_1, List.forall_mem_cons.mpr ⟨r_X8_write_4, List.forall_mem_cons.mpr ⟨r_X8_write_5, List.forall_mem_cons.mpr ⟨r_X8_write_6, List.forall_mem_cons.mpr ⟨r_X8_write_9, List.forall_mem_cons.mpr ⟨r_X8_write_14, List.forall_mem_cons.mpr ⟨r_X8_write_15, List.forall_mem_cons.mpr ⟨r_X8_write_18, List.forall_mem_cons.mpr ⟨r_X8_write_19, List.forall_mem_cons.mpr ⟨r_X8_write_20, List.forall_mem_cons.mpr ⟨r_X8_write_21, List.forall_mem_cons.mpr ⟨r_X8_write_22, List.forall_mem_cons.mpr ⟨r_X8_write_23, List.forall_mem_cons.mpr ⟨r_X8_write_24, List.forall_mem_cons.mpr ⟨r_X8_write_26, List.forall_mem_cons.mpr ⟨r_X8_write_27, List.forall_mem_cons.mpr ⟨r_X8_write_29, List.forall_mem_cons.mpr ⟨r_X8_write_31, List.forall_mem_cons.mpr ⟨r_X8_write_32, List.forall_mem_cons.mpr ⟨r_X8_write_35, List.forall_mem_cons.mpr ⟨r_X8_write_37, List.forall_mem_cons.mpr ⟨r_X8_write_38, List.forall_mem_cons.mpr ⟨r_X8_write_39, List.forall_mem_cons.mpr ⟨r_X8_write_40, List.forall_mem_cons.mpr ⟨r_X8_write_43, List.forall_mem_cons.mpr ⟨r_X8_write_45, List.forall_mem_cons.mpr ⟨r_X8_write_46, List.forall_mem_cons.mpr ⟨r_X8_write_47, List.forall_mem_cons.mpr ⟨r_X8_write_49, List.forall_mem_cons.mpr ⟨r_X8_write_54, List.forall_mem_cons.mpr ⟨r_X8_write_55, List.forall_mem_cons.mpr ⟨r_X8_write_58, List.forall_mem_cons.mpr ⟨r_X8_write_59, List.forall_mem_cons.mpr ⟨r_X8_write_62, List.forall_mem_cons.mpr ⟨r_X8_write_64, List.forall_mem_cons.mpr ⟨r_X8_write_65, List.forall_mem_cons.mpr ⟨r_X8_write_66, List.forall_mem_cons.mpr ⟨r_X8_write_69, List.forall_mem_cons.mpr ⟨r_X8_write_71, fun _ h => absurd h List.not_mem_nil⟩⟩⟩⟩⟩⟩⟩⟩⟩⟩⟩⟩⟩⟩⟩⟩⟩⟩⟩⟩⟩⟩⟩⟩⟩⟩⟩⟩⟩⟩⟩⟩⟩⟩⟩⟩⟩⟩⟩⟩
set_option maxRecDepth 100000 in
theorem tq_X8_write_0 : tf_X8_write_0 = tl_X8_write_0.map (fun q => (q.1, stepOf NPf md_X8_write q.2)) := rfl
set_option maxRecDepth 100000 in
theorem ok_X8_write_1 : ∀ q ∈ tl_X8_write_1, IOK WB AD SR FW TB md_X8_write q.1 q.2 := List.forall_mem_cons.mpr ⟨r_X8_write_72, List.forall_mem_cons.mpr ⟨r_X8_write_75, List.forall_mem_cons.mpr ⟨r_X8_write_77, List.forall_mem_cons.mpr ⟨r_X8_write_78, List.forall_mem_cons.mpr ⟨r_X8_write_81, List.forall_mem_cons.mpr ⟨r_X8_write_83, List.forall_mem_cons.mpr ⟨r_X8_write_84, List.forall_mem_cons.mpr ⟨r_X8_write_87, List.forall_mem_cons.mpr ⟨r_X8_write_89, List.forall_mem_cons.mpr ⟨r_X8_write_90, List.forall_mem_cons.mpr ⟨r_X8_write_91, List.forall_mem_cons.mpr ⟨r_X8_write_93, List.forall_mem_cons.mpr ⟨r_X8_write_96, List.forall_mem_cons.mpr ⟨r_X8_write_99, List.forall_mem_cons.mpr ⟨r_X8_write_100, List.forall_mem_cons.mpr ⟨r_X8_write_102, List.forall_mem_cons.mpr ⟨r_X8_write_105, List.forall_mem_cons.mpr ⟨r_X8_write_106, fun _ h => absurd h List.not_mem_nil⟩⟩⟩⟩⟩⟩⟩⟩⟩⟩⟩⟩⟩⟩⟩⟩⟩⟩
set_option maxRecDepth 100000 in
theorem tq_X8_write_1 : tf_X8_write_1 = tl_X8_write_1.map (fun q => (q.1, stepOf NPf md_X8_write q.2)) := rfl
theorem ro_X8_write : RowsOK (md_X8_write, tl_X8_write) tf_X8_write := rows_app ⟨tq_X8_write_0, ok_X8_write_0⟩ (⟨tq_X8_write_1, ok_X8_write_1⟩)
theorem r_X8_variablesAt_0 : IOK WB AD SR FW TB md_X8_variablesAt 0 (.iconst 0, 0, 0, 0, []) := io_plain (by decide +kernel) rfl
theorem r_X8_variablesAt_1 : IOK WB AD SR FW TB md_X8_variablesAt 1 (.istore_n 2, 0, 0, 0, []) := io_plain (by decide +kernel) rfl
theorem r_X8_variablesAt_2 : IOK WB AD SR FW TB md_X8_variablesAt 2 (.aload_n 0, 0, 0, 0, []) := io_plain (by decide +kernel) rfl
theorem r_X8_variablesAt_3 : IOK WB AD SR FW TB md_X8_variablesAt 3 (.iload_n 1, 0, 0, 0, []) := io_plain (by decide +kernel) rfl
theorem r_X8_variablesAt_4 : IOK WB AD SR FW TB md_X8_variablesAt 4 (.invokevirtual 57, 2, 8, 0, []) := io_virt (by decide +kernel) tb_X8_end (Or.inl (wb_3 191 rfl rfl)) in_X8_end se_X8_end ⟨_, rfl, rfl⟩ pr_X8_end (by decide)
theorem r_X8_variablesAt_7 : IOK WB AD SR FW TB md_X8_variablesAt 7 (.istore_n 3, 0, 0, 0, []) := io_plain (by decide +kernel) rfl
theorem r_X8_variablesAt_8 : IOK WB AD SR FW TB md_X8_variablesAt 8 (.iload_n 1, 0, 0, 0, []) := io_plain (by decide +kernel) rfl
theorem r_X8_variablesAt_9 : IOK WB AD SR FW TB md_X8_variablesAt 9 (.istore 4, 0, 0, 0, []) := io_plain (by decide +kernel) rfl
theorem r_X8_variablesAt_11 : IOK WB AD SR FW TB md_X8_variablesAt 11 (.iload 4, 0, 0, 0, []) := io_plain (by decide +kernel) rfl
theorem r_X8_variablesAt_13 : IOK WB AD SR FW TB md_X8_variablesAt 13 (.iload_n 3, 0, 0, 0, []) := io_plain (by decide +kernel) rfl
theorem r_X8_variablesAt_14 : IOK WB AD SR FW TB md_X8_variablesAt 14 (.if_icmp .ge 37, 0, 0, 0, []) := io_plain (by decide +kernel) rfl
theorem r_X8_variablesAt_17 : IOK WB AD SR FW TB md_X8_variablesAt 17 (.iload_n 2, 0, 0, 0, []) := io_plain (by decide +kernel) rfl
theorem r_X8_variablesAt_18 : IOK WB AD SR FW TB md_X8_variablesAt 18 (.aload_n 0, 0, 0, 0, []) := io_plain (by decide +kernel) rfl
theorem r_X8_variablesAt_19 : IOK WB AD SR FW TB md_X8_variablesAt 19 (.getfield 9, 8, 1, 2, []) := io_get (by decide +kernel) fo_RX8_9
theorem r_X8_variablesAt_22 : IOK WB AD SR FW TB md_X8_variablesAt 22 (.iload 4, 0, 0, 0, []) := io_plain (by decide +kernel) rfl
theorem r_X8_variablesAt_24 : IOK WB AD SR FW TB md_X8_variablesAt 24 (.iaload, 0, 0, 0, []) := io_plain (by decide +kernel) rfl
theorem r_X8_variablesAt_25 : IOK WB AD SR FW TB md_X8_variablesAt 25 (.bipush 32, 0, 0, 0, []) := io_plain (by decide +kernel) rfl
theorem r_X8_variablesAt_27 : IOK WB AD SR FW TB md_X8_variablesAt 27 (.if_icmp .ge 15, 0, 0, 0, []) := io_plain (by decide +kernel) rfl
theorem r_X8_variablesAt_30 : IOK WB AD SR FW TB md_X8_variablesAt 30 (.iconst 1, 0, 0, 0, []) := io_plain (by decide +kernel) rfl
theorem r_X8_variablesAt_31 : IOK WB AD SR FW TB md_X8_variablesAt 31 (.aload_n 0, 0, 0, 0, []) := io_plain (by decide +kernel) rfl
theorem r_X8_variablesAt_32 : IOK WB AD SR FW TB md_X8_variablesAt 32 (.getfield 9, 8, 1, 2, []) := io_get (by decide +kernel) fo_RX8_9
theorem r_X8_variablesAt_35 : IOK WB AD SR FW TB md_X8_variablesAt 35 (.iload 4, 0, 0, 0, []) := io_plain (by decide +kernel) rfl
theorem r_X8_variablesAt_37 : IOK WB AD SR FW TB md_X8_variablesAt 37 (.iaload, 0, 0, 0, []) := io_plain (by decide +kernel) rfl
theorem r_X8_variablesAt_38 : IOK WB AD SR FW TB md_X8_variablesAt 38 (.ishl, 0, 0, 0, []) := io_plain (by decide +kernel) rfl
theorem r_X8_variablesAt_39 : IOK WB AD SR FW TB md_X8_variablesAt 39 (.goto 4, 0, 0, 0, []) := io_plain (by decide +kernel) rfl
theorem r_X8_variablesAt_42 : IOK WB AD SR FW TB md_X8_variablesAt 42 (.iconst 0, 0, 0, 0, []) := io_plain (by decide +kernel) rfl
theorem r_X8_variablesAt_43 : IOK WB AD SR FW TB md_X8_variablesAt 43 (.ior, 0, 0, 0, []) := io_plain (by decide +kernel) rfl
theorem r_X8_variablesAt_44 : IOK WB AD SR FW TB md_X8_variablesAt 44 (.istore_n 2, 0, 0, 0, []) := io_plain (by decide +kernel) rfl
theorem r_X8_variablesAt_45 : IOK WB AD SR FW TB md_X8_variablesAt 45 (.iinc 4 1, 0, 0, 0, []) := io_plain (by decide +kernel) rfl
theorem r_X8_variablesAt_48 : IOK WB AD SR FW TB md_X8_variablesAt 48 (.goto (-37), 0, 0, 0, []) := io_plain (by decide +kernel) rfl
theorem r_X8_variablesAt_51 : IOK WB AD SR FW TB md_X8_variablesAt 51 (.iload_n 2, 0, 0, 0, []) := io_plain (by decide +kernel) rfl
theorem r_X8_variablesAt_52 : IOK WB AD SR FW TB md_X8_variablesAt 52 (.ireturn, 0, 0, 0, []) := io_plain (by decide +kernel) rfl
set_option maxRecDepth 100000 in
theorem ok_X8_variablesAt_0 : ∀ q ∈ tl_X8_variablesAt, IOK WB AD SR FW TB md_X8_variablesAt q.1 q.2 := List.forall_mem_cons.mpr ⟨r_X8_variablesAt_0, List.forall_mem_cons.mpr ⟨r_X8_variablesAt_1, List.forall_mem_cons.mpr ⟨r_X8_variablesAt_2, List.forall_mem_cons.mpr ⟨r_X8_variablesAt_3, List.forall_mem_cons.mpr ⟨r_X8_variablesAt_4, List.forall_mem_cons.mpr ⟨r_X8_variablesAt_7, List.forall_mem_cons.mpr ⟨r_X8_variablesAt_8, List.forall_mem_cons.mpr ⟨r_X8_variablesAt_9, List.forall_mem_cons.mpr ⟨r_X8_variablesAt_11, List.forall_mem_cons.mpr ⟨r_X8_variablesAt_13, List.forall_mem_cons.mpr ⟨r_X8_variablesAt_14, List.forall_mem_cons.mpr ⟨r_X8_variablesAt_17, List.forall_mem_cons.mpr ⟨r_X8_variablesAt_18, List.forall_mem_cons.mpr ⟨r_X8_variablesAt_19, List.forall_mem_cons.mpr ⟨r_X8_variablesAt_22, List.forall_mem_cons.mpr ⟨r_X8_variablesAt_24, List.forall_mem_cons.mpr ⟨r_X8_variablesAt_25, List.forall_mem_cons.mpr ⟨r_X8_variablesAt_27, List.forall_mem_cons.mpr ⟨r_X8_variablesAt_30, List.forall_mem_cons.mpr ⟨r_X8_variablesAt_31, List.forall_mem_cons.mpr ⟨r_X8_variablesAt_32, List.forall_mem_cons.mpr ⟨r_X8_variablesAt_35, List.forall_mem_cons.mpr ⟨r_X8_variablesAt_37, List.forall_mem_cons.mpr ⟨r_X8_variablesAt_38, List.forall_mem_cons.mpr ⟨r_X8_variablesAt_39, List.forall_mem_cons.mpr ⟨r_X8_variablesAt_42, List.forall_mem_cons.mpr ⟨r_X8_variablesAt_43, List.forall_mem_cons.mpr ⟨r_X8_variablesAt_44, List.forall_mem_cons.mpr ⟨r_X8_variablesAt_45, List.forall_mem_cons.mpr ⟨r_X8_variablesAt_48, List.forall_mem_cons.mpr ⟨r_X8_variablesAt_51, List.forall_mem_cons.mpr ⟨r_X8_variablesAt_52, fun _ h => absurd h List.not_mem_nil⟩⟩⟩⟩⟩⟩⟩⟩⟩⟩⟩⟩⟩⟩⟩⟩⟩⟩⟩⟩⟩⟩⟩⟩⟩⟩⟩⟩⟩⟩⟩⟩
set_option maxRecDepth 100000 in
theorem tq_X8_variablesAt_0 : tf_X8_variablesAt = tl_X8_variablesAt.map (fun q => (q.1, stepOf NPf md_X8_variablesAt q.2)) := rfl
theorem ro_X8_variablesAt : RowsOK (md_X8_variablesAt, tl_X8_variablesAt) tf_X8_variablesAt := ⟨tq_X8_variablesAt_0, ok_X8_variablesAt_0⟩
theorem r_X10_operator_0 : IOK WB AD SR FW TB md_X10_operator 0 (.iload_n 3, 0, 0, 0, []) := io_plain (by decide +kernel) rfl
theorem r_X10_operator_1 : IOK WB AD SR FW TB md_X10_operator 1 (.iconst (-1), 0, 0, 0, []) := io_plain (by decide +kernel) rfl
theorem r_X10_operator_2 : IOK WB AD SR FW TB md_X10_operator 2 (.if_icmp .eq 24, 0, 0, 0, []) := io_plain (by decide +kernel) rfl
theorem r_X10_operator_5 : IOK WB AD SR FW TB md_X10_operator 5 (.aload_n 0, 0, 0, 0, []) := io_plain (by decide +kernel) rfl
theorem r_X10_operator_6 : IOK WB AD SR FW TB md_X10_operator 6 (.getfield 12, 10, 0, 2, []) := io_get (by decide +kernel) fo_RX10_12
theorem r_X10_operator_9 : IOK WB AD SR FW TB md_X10_operator 9 (.iload_n 3, 0, 0, 0, []) := io_plain (by decide +kernel) rfl
theorem r_X10_operator_10 : IOK WB AD SR FW TB md_X10_operator 10 (.invokevirtual 126, 16, 7, 0, []) := io_virt (by decide +kernel) tb_X7_hasOperator (Or.inl (wb_3 109 rfl rfl)) in_X7_hasOperator se_X7_hasOperator ⟨_, rfl, rfl⟩ pr_X7_hasOperator (by decide)
theorem r_X10_operator_13 : IOK WB AD SR FW TB md_X10_operator 13 (.ifCond .ne 13, 0, 0, 0, []) := io_plain (by decide +kernel) rfl
theorem r_X10_operator_26 : IOK WB AD SR FW TB md_X10_operator 26 (.iload_n 1, 0, 0, 0, []) := io_plain (by decide +kernel) rfl
theorem r_X10_operator_27 : IOK WB AD SR FW TB md_X10_operator 27 (.ifCond .lt 17, 0, 0, 0, []) := io_plain (by decide +kernel) rfl
theorem r_X10_operator_30 : IOK WB AD SR FW TB md_X10_operator 30 (.iload_n 1, 0, 0, 0, []) := io_plain (by decide +kernel) rfl
theorem r_X10_operator_31 : IOK WB AD SR FW TB md_X10_operator 31 (.iconst 3, 0, 0, 0, []) := io_plain (by decide +kernel) rfl
theorem r_X10_operator_32 : IOK WB AD SR FW TB md_X10_operator 32 (.if_icmp .gt 12, 0, 0, 0, []) := io_plain (by decide +kernel) rfl
theorem r_X10_operator_35 : IOK WB AD SR FW TB md_X10_operator 35 (.iload_n 2, 0, 0, 0, []) := io_plain (by decide +kernel) rfl
theorem r_X10_operator_36 : IOK WB AD SR FW TB md_X10_operator 36 (.ifCond .lt 8, 0, 0, 0, []) := io_plain (by decide +kernel) rfl
theorem r_X10_operator_39 : IOK WB AD SR FW TB md_X10_operator 39 (.iload_n 2, 0, 0, 0, []) := io_plain (by decide +kernel) rfl
theorem r_X10_operator_40 : IOK WB AD SR FW TB md_X10_operator 40 (.iconst 3, 0, 0, 0, []) := io_plain (by decide +kernel) rfl
theorem r_X10_operator_41 : IOK WB AD SR FW TB md_X10_operator 41 (.if_icmp .le 13, 0, 0, 0, []) := io_plain (by decide +kernel) rfl
theorem r_X10_operator_54 : IOK WB AD SR FW TB md_X10_operator 54 (.iload_n 2, 0, 0, 0, []) := io_plain (by decide +kernel) rfl
theorem r_X10_operator_55 : IOK WB AD SR FW TB md_X10_operator 55 (.ifCond .eq 18, 0, 0, 0, []) := io_plain (by decide +kernel) rfl
theorem r_X10_operator_58 : IOK WB AD SR FW TB md_X10_operator 58 (.iload_n 1, 0, 0, 0, []) := io_plain (by decide +kernel) rfl
theorem r_X10_operator_59 : IOK WB AD SR FW TB md_X10_operator 59 (.iconst 2, 0, 0, 0, []) := io_plain (by decide +kernel) rfl
theorem r_X10_operator_60 : IOK WB AD SR FW TB md_X10_operator 60 (.if_icmp .eq 13, 0, 0, 0, []) := io_plain (by decide +kernel) rfl
theorem r_X10_operator_73 : IOK WB AD SR FW TB md_X10_operator 73 (.iload_n 3, 0, 0, 0, []) := io_plain (by decide +kernel) rfl
theorem r_X10_operator_74 : IOK WB AD SR FW TB md_X10_operator 74 (.iconst (-1), 0, 0, 0, []) := io_plain (by decide +kernel) rfl
theorem r_X10_operator_75 : IOK WB AD SR FW TB md_X10_operator 75 (.if_icmp .eq 30, 0, 0, 0, []) := io_plain (by decide +kernel) rfl
theorem r_X10_operator_78 : IOK WB AD SR FW TB md_X10_operator 78 (.iload_n 2, 0, 0, 0, []) := io_plain (by decide +kernel) rfl
theorem r_X10_operator_79 : IOK WB AD SR FW TB md_X10_operator 79 (.iconst 2, 0, 0, 0, []) := io_plain (by decide +kernel) rfl
theorem r_X10_operator_80 : IOK WB AD SR FW TB md_X10_operator 80 (.if_icmp .lt 15, 0, 0, 0, []) := io_plain (by decide +kernel) rfl
theorem r_X10_operator_83 : IOK WB AD SR FW TB md_X10_operator 83 (.aload_n 0, 0, 0, 0, []) := io_plain (by decide +kernel) rfl
theorem r_X10_operator_84 : IOK WB AD SR FW TB md_X10_operator 84 (.getfield 12, 10, 0, 2, []) := io_get (by decide +kernel) fo_RX10_12
theorem r_X10_operator_87 : IOK WB AD SR FW TB md_X10_operator 87 (.getfield 135, 7, 4, 2, []) := io_get (by decide +kernel) fo_RX10_135
theorem r_X10_operator_90 : IOK WB AD SR FW TB md_X10_operator 90 (.iload_n 3, 0, 0, 0, []) := io_plain (by decide +kernel) rfl
theorem r_X10_operator_91 : IOK WB AD SR FW TB md_X10_operator 91 (.iaload, 0, 0, 0, []) := io_plain (by decide +kernel) rfl
theorem r_X10_operator_92 : IOK WB AD SR FW TB md_X10_operator 92 (.ifCond .eq 13, 0, 0, 0, []) := io_plain (by decide +kernel) rfl
theorem r_X10_operator_105 : IOK WB AD SR FW TB md_X10_operator 105 (.aload_n 0, 0, 0, 0, []) := io_plain (by decide +kernel) rfl
theorem r_X10_operator_106 : IOK WB AD SR FW TB md_X10_operator 106 (.getfield 12, 10, 0, 2, []) := io_get (by decide +kernel) fo_RX10_12
theorem r_X10_operator_109 : IOK WB AD SR FW TB md_X10_operator 109 (.getfield 140, 7, 1, 0, []) := io_get (by decide +kernel) fo_RX10_140
theorem r_X10_operator_112 : IOK WB AD SR FW TB md_X10_operator 112 (.bipush 16, 0, 0, 0, []) := io_plain (by decide +kernel) rfl
theorem r_X10_operator_114 : IOK WB AD SR FW TB md_X10_operator 114 (.if_icmp .lt 13, 0, 0, 0, []) := io_plain (by decide +kernel) rfl
theorem r_X10_operator_127 : IOK WB AD SR FW TB md_X10_operator 127 (.aload_n 0, 0, 0, 0, []) := io_plain (by decide +kernel) rfl
theorem r_X10_operator_128 : IOK WB AD SR FW TB md_X10_operator 128 (.getfield 12, 10, 0, 2, []) := io_get (by decide +kernel) fo_RX10_12
theorem r_X10_operator_131 : IOK WB AD SR FW TB md_X10_operator 131 (.iload_n 1, 0, 0, 0, []) := io_plain (by decide +kernel) rfl
theorem r_X10_operator_132 : IOK WB AD SR FW TB md_X10_operator 132 (.iload_n 2, 0, 0, 0, []) := io_plain (by decide +kernel) rfl
theorem r_X10_operator_133 : IOK WB AD SR FW TB md_X10_operator 133 (.iload_n 3, 0, 0, 0, []) := io_plain (by decide +kernel) rfl
theorem r_X10_operator_134 : IOK WB AD SR FW TB md_X10_operator 134 (.invokevirtual 145, 10, 7, 0, []) := io_virt (by decide +kernel) tb_X7_addOperator (Or.inl (wb_3 148 rfl rfl)) in_X7_addOperator se_X7_addOperator ⟨_, rfl, rfl⟩ pr_X7_addOperator (by decide)
theorem r_X10_operator_137 : IOK WB AD SR FW TB md_X10_operator 137 (.ireturn, 0, 0, 0, []) := io_plain (by decide +kernel) rfl
set_option maxRecDepth 100000 in
theorem ok_X10_operator_0 : ∀ q ∈ tl_X10_operator_0, IOK WB AD SR FW TB md_X10_operator q.1 q.2 := List.forall_mem_cons.mpr ⟨r_X10_operator_0, List.forall_mem_cons.mpr ⟨r_X10_operator_1, List.forall_mem_cons.mpr ⟨r_X10_operator_2, List.forall_mem_cons.mpr ⟨r_X10_operator_5, List.forall_mem_cons.mpr ⟨r_X10_operator_6, List.forall_mem_cons.mpr ⟨r_X10_operator_9, List.forall_mem_cons.mpr ⟨r_X10_operator_10, List.forall_mem_cons.mpr ⟨r_X10_operator_13, List.forall_mem_cons.mpr ⟨r_X10_operator_26, List.forall_mem_cons.mpr ⟨r_X10_operator_27, List.forall_mem_cons.mpr ⟨r_X10_operator_30, List.forall_mem_cons.mpr ⟨r_X10_operator_31, List.forall_mem_cons.mpr ⟨r_X10_operator_32, List.forall_mem_cons.mpr ⟨r_X10_operator_35, List.forall_mem_cons.mpr ⟨r_X10_operator_36, List.forall_mem_cons.mpr ⟨r_X10_operator_39, List.forall_mem_cons.mpr ⟨r_X10_operator_40, List.forall_mem_cons.mpr ⟨r_X10_operator_41, List.forall_mem_cons.mpr ⟨r_X10_operator_54, List.forall_mem_cons.mpr ⟨r_X10_operator_55, List.forall_mem_cons.mpr ⟨r_X10_operator_58, List.forall_mem_cons.mpr ⟨r_X10_operator_59, List.forall_mem_cons.mpr ⟨r_X10_operator_60, List.forall_mem_cons.mpr ⟨r_X10_operator_73, List.forall_mem_cons.mpr ⟨r_X10_operator_74, List.forall_mem_cons.mpr ⟨r_X10_operator_75, List.forall_mem_cons.mpr ⟨r_X10_operator_78, List.forall_mem_cons.mpr ⟨r_X10_operator_79, List.forall_mem_cons.mpr ⟨r_X10_operator_80, List.forall_mem_cons.mpr ⟨r_X10_operator_83, List.forall_mem_cons.mpr ⟨r_X10_operator_84, List.forall_mem_cons.mpr ⟨r_X10_operator_87, List.forall_mem_cons.mpr ⟨r_X10_operator_90, List.forall_mem_cons.mpr ⟨r_X10_operator_91, List.forall_mem_cons.mpr ⟨r_X10_operator_92, List.forall_mem_cons.mpr ⟨r_X10_operator_105, List.forall_mem_cons.mpr ⟨r_X10_operator_106, List.forall_mem_cons.mpr ⟨r_X10_operator_109, List.forall_mem_cons.mpr ⟨r_X10_operator_112, List.forall_mem_cons.mpr ⟨r_X10_operator_114, fun _ h => absurd h List.not_mem_nil⟩⟩⟩⟩⟩⟩⟩⟩⟩⟩⟩⟩⟩⟩⟩⟩⟩⟩⟩⟩⟩⟩⟩⟩⟩⟩⟩⟩⟩⟩⟩⟩⟩⟩⟩⟩⟩⟩⟩⟩
set_option maxRecDepth 100000 in
theorem tq_X10_operator_0 : tf_X10_operator_0 = tl_X10_operator_0.map (fun q => (q.1, stepOf NPf md_X10_operator q.2)) := rfl
set_option maxRecDepth 100000 in
theorem ok_X10_operator_1 : ∀ q ∈ tl_X10_operator_1, IOK WB AD SR FW TB md_X10_operator q.1 q.2 := List.forall_mem_cons.mpr ⟨r_X10_operator_127, List.forall_mem_cons.mpr ⟨r_X10_operator_128, List.forall_mem_cons.mpr ⟨r_X10_operator_131, List.forall_mem_cons.mpr ⟨r_X10_operator_132, List.forall_mem_cons.mpr ⟨r_X10_operator_133, List.forall_mem_cons.mpr ⟨r_X10_operator_134, List.forall_mem_cons.mpr ⟨r_X10_operator_137, fun _ h => absurd h List.not_mem_nil⟩⟩⟩⟩⟩⟩⟩
set_option maxRecDepth 100000 in
theorem tq_X10_operator_1 : tf_X10_operator_1 = tl_X10_operator_1.map (fun q => (q.1, stepOf NPf md_X10_operator q.2)) := rfl
theorem ro_X10_operator : RowsOK (md_X10_operator, tl_X10_operator) tf_X10_operator := rows_app ⟨tq_X10_operator_0, ok_X10_operator_0⟩ (⟨tq_X10_operator_1, ok_X10_operator_1⟩)
theorem r_X10_apply_0 : IOK WB AD SR FW TB md_X10_apply 0 (.aload_n 0, 0, 0, 0, []) := io_plain (by decide +kernel) rfl
theorem r_X10_apply_1 : IOK WB AD SR FW TB md_X10_apply 1 (.getfield 12, 10, 0, 2, []) := io_get (by decide +kernel) fo_RX10_12
theorem r_X10_apply_4 : IOK WB AD SR FW TB md_X10_apply 4 (.iload_n 1, 0, 0, 0, []) := io_plain (by decide +kernel) rfl
theorem r_X10_apply_5 : IOK WB AD SR FW TB md_X10_apply 5 (.invokevirtual 126, 16, 7, 0, []) := io_virt (by decide +kernel) tb_X7_hasOperator (Or.inl (wb_3 109 rfl rfl)) in_X7_hasOperator se_X7_hasOperator ⟨_, rfl, rfl⟩ pr_X7_hasOperator (by decide)
theorem r_X10_apply_8 : IOK WB AD SR FW TB md_X10_apply 8 (.ifCond .ne 13, 0, 0, 0, []) := io_plain (by decide +kernel) rfl
theorem r_X10_apply_21 : IOK WB AD SR FW TB md_X10_apply 21 (.aload_n 0, 0, 0, 0, []) := io_plain (by decide +kernel) rfl
theorem r_X10_apply_22 : IOK WB AD SR FW TB md_X10_apply 22 (.getfield 12, 10, 0, 2, []) := io_get (by decide +kernel) fo_RX10_12
theorem r_X10_apply_25 : IOK WB AD SR FW TB md_X10_apply 25 (.getfield 135, 7, 4, 2, []) := io_get (by decide +kernel) fo_RX10_135
theorem r_X10_apply_28 : IOK WB AD SR FW TB md_X10_apply 28 (.iload_n 1, 0, 0, 0, []) := io_plain (by decide +kernel) rfl
theorem r_X10_apply_29 : IOK WB AD SR FW TB md_X10_apply 29 (.iaload, 0, 0, 0, []) := io_plain (by decide +kernel) rfl
theorem r_X10_apply_30 : IOK WB AD SR FW TB md_X10_apply 30 (.istore_n 2, 0, 0, 0, []) := io_plain (by decide +kernel) rfl
theorem r_X10_apply_31 : IOK WB AD SR FW TB md_X10_apply 31 (.aload_n 0, 0, 0, 0, []) := io_plain (by decide +kernel) rfl
theorem r_X10_apply_32 : IOK WB AD SR FW TB md_X10_apply 32 (.getfield 160, 10, 8, 0, []) := io_get (by decide +kernel) fo_RX10_160
theorem r_X10_apply_35 : IOK WB AD SR FW TB md_X10_apply 35 (.iload_n 2, 0, 0, 0, []) := io_plain (by decide +kernel) rfl
theorem r_X10_apply_36 : IOK WB AD SR FW TB md_X10_apply 36 (.if_icmp .lt 14, 0, 0, 0, []) := io_plain (by decide +kernel) rfl
theorem r_X10_apply_39 : IOK WB AD SR FW TB md_X10_apply 39 (.aload_n 0, 0, 0, 0, []) := io_plain (by decide +kernel) rfl
theorem r_X10_apply_40 : IOK WB AD SR FW TB md_X10_apply 40 (.getfield 160, 10, 8, 0, []) := io_get (by decide +kernel) fo_RX10_160
theorem r_X10_apply_43 : IOK WB AD SR FW TB md_X10_apply 43 (.iload_n 2, 0, 0, 0, []) := io_plain (by decide +kernel) rfl
theorem r_X10_apply_44 : IOK WB AD SR FW TB md_X10_apply 44 (.isub, 0, 0, 0, []) := io_plain (by decide +kernel) rfl
theorem r_X10_apply_45 : IOK WB AD SR FW TB md_X10_apply 45 (.bipush 10, 0, 0, 0, []) := io_plain (by decide +kernel) rfl
theorem r_X10_apply_47 : IOK WB AD SR FW TB md_X10_apply 47 (.if_icmp .lt 13, 0, 0, 0, []) := io_plain (by decide +kernel) rfl
theorem r_X10_apply_60 : IOK WB AD SR FW TB md_X10_apply 60 (.aload_n 0, 0, 0, 0, []) := io_plain (by decide +kernel) rfl
theorem r_X10_apply_61 : IOK WB AD SR FW TB md_X10_apply 61 (.getfield 21, 10, 1, 2, []) := io_get (by decide +kernel) fo_RX10_21
theorem r_X10_apply_64 : IOK WB AD SR FW TB md_X10_apply 64 (.invokevirtual 173, 21, 8, 0, []) := io_virt (by decide +kernel) tb_X8_startAnew (Or.inl (wb_3 204 rfl rfl)) in_X8_startAnew se_X8_startAnew ⟨_, rfl, rfl⟩ pr_X8_startAnew (by decide)
theorem r_X10_apply_67 : IOK WB AD SR FW TB md_X10_apply 67 (.aload_n 0, 0, 0, 0, []) := io_plain (by decide +kernel) rfl
theorem r_X10_apply_68 : IOK WB AD SR FW TB md_X10_apply 68 (.getfield 160, 10, 8, 0, []) := io_get (by decide +kernel) fo_RX10_160
theorem r_X10_apply_71 : IOK WB AD SR FW TB md_X10_apply 71 (.iload_n 2, 0, 0, 0, []) := io_plain (by decide +kernel) rfl
theorem r_X10_apply_72 : IOK WB AD SR FW TB md_X10_apply 72 (.isub, 0, 0, 0, []) := io_plain (by decide +kernel) rfl
theorem r_X10_apply_73 : IOK WB AD SR FW TB md_X10_apply 73 (.istore_n 3, 0, 0, 0, []) := io_plain (by decide +kernel) rfl
theorem r_X10_apply_74 : IOK WB AD SR FW TB md_X10_apply 74 (.iload_n 3, 0, 0, 0, []) := io_plain (by decide +kernel) rfl
theorem r_X10_apply_75 : IOK WB AD SR FW TB md_X10_apply 75 (.aload_n 0, 0, 0, 0, []) := io_plain (by decide +kernel) rfl
theorem r_X10_apply_76 : IOK WB AD SR FW TB md_X10_apply 76 (.getfield 160, 10, 8, 0, []) := io_get (by decide +kernel) fo_RX10_160
theorem r_X10_apply_79 : IOK WB AD SR FW TB md_X10_apply 79 (.if_icmp .ge 20, 0, 0, 0, []) := io_plain (by decide +kernel) rfl
theorem r_X10_apply_82 : IOK WB AD SR FW TB md_X10_apply 82 (.aload_n 0, 0, 0, 0, []) := io_plain (by decide +kernel) rfl
theorem r_X10_apply_83 : IOK WB AD SR FW TB md_X10_apply 83 (.getfield 21, 10, 1, 2, []) := io_get (by decide +kernel) fo_RX10_21
theorem r_X10_apply_86 : IOK WB AD SR FW TB md_X10_apply 86 (.iload_n 3, 0, 0, 0, []) := io_plain (by decide +kernel) rfl
theorem r_X10_apply_87 : IOK WB AD SR FW TB md_X10_apply 87 (.invokestatic 176, 17, 10, 0, []) := io_stat (by decide +kernel) tb_X10_stackAt (Or.inl (wb_3 184 rfl rfl)) st_X10_stackAt pr_X10_stackAt
theorem r_X10_apply_90 : IOK WB AD SR FW TB md_X10_apply 90 (.invokevirtual 179, 19, 8, 0, []) := io_virt (by decide +kernel) tb_X8_await (Or.inl (wb_3 213 rfl rfl)) in_X8_await se_X8_await ⟨_, rfl, rfl⟩ pr_X8_await (by decide)
theorem r_X10_apply_93 : IOK WB AD SR FW TB md_X10_apply 93 (.iinc 3 1, 0, 0, 0, []) := io_plain (by decide +kernel) rfl
theorem r_X10_apply_96 : IOK WB AD SR FW TB md_X10_apply 96 (.goto (-22), 0, 0, 0, []) := io_plain (by decide +kernel) rfl
theorem r_X10_apply_99 : IOK WB AD SR FW TB md_X10_apply 99 (.aload_n 0, 0, 0, 0, []) := io_plain (by decide +kernel) rfl
theorem r_X10_apply_100 : IOK WB AD SR FW TB md_X10_apply 100 (.getfield 21, 10, 1, 2, []) := io_get (by decide +kernel) fo_RX10_21
theorem r_X10_apply_103 : IOK WB AD SR FW TB md_X10_apply 103 (.iload_n 1, 0, 0, 0, []) := io_plain (by decide +kernel) rfl
theorem r_X10_apply_104 : IOK WB AD SR FW TB md_X10_apply 104 (.iconst 0, 0, 0, 0, []) := io_plain (by decide +kernel) rfl
theorem r_X10_apply_105 : IOK WB AD SR FW TB md_X10_apply 105 (.invokevirtual 183, 3, 8, 0, []) := io_virt (by decide +kernel) tb_X8_putOn (Or.inl (wb_3 217 rfl rfl)) in_X8_putOn se_X8_putOn ⟨_, rfl, rfl⟩ pr_X8_putOn (by decide)
theorem r_X10_apply_108 : IOK WB AD SR FW TB md_X10_apply 108 (.istore_n 3, 0, 0, 0, []) := io_plain (by decide +kernel) rfl
theorem r_X10_apply_109 : IOK WB AD SR FW TB md_X10_apply 109 (.iload_n 3, 0, 0, 0, []) := io_plain (by decide +kernel) rfl
theorem r_X10_apply_110 : IOK WB AD SR FW TB md_X10_apply 110 (.ifCond .ge 13, 0, 0, 0, []) := io_plain (by decide +kernel) rfl
theorem r_X10_apply_123 : IOK WB AD SR FW TB md_X10_apply 123 (.aload_n 0, 0, 0, 0, []) := io_plain (by decide +kernel) rfl
theorem r_X10_apply_124 : IOK WB AD SR FW TB md_X10_apply 124 (.dup, 0, 0, 0, []) := io_plain (by decide +kernel) rfl
theorem r_X10_apply_125 : IOK WB AD SR FW TB md_X10_apply 125 (.getfield 160, 10, 8, 0, []) := io_get (by decide +kernel) fo_RX10_160
theorem r_X10_apply_128 : IOK WB AD SR FW TB md_X10_apply 128 (.iload_n 2, 0, 0, 0, []) := io_plain (by decide +kernel) rfl
theorem r_X10_apply_129 : IOK WB AD SR FW TB md_X10_apply 129 (.isub, 0, 0, 0, []) := io_plain (by decide +kernel) rfl
theorem r_X10_apply_130 : IOK WB AD SR FW TB md_X10_apply 130 (.putfield 160, 10, 8, 0, []) := io_put (by decide +kernel) fo_RX10_160 po_RX10_0_10_8_0
theorem r_X10_apply_133 : IOK WB AD SR FW TB md_X10_apply 133 (.aload_n 0, 0, 0, 0, []) := io_plain (by decide +kernel) rfl
theorem r_X10_apply_134 : IOK WB AD SR FW TB md_X10_apply 134 (.iload_n 3, 0, 0, 0, []) := io_plain (by decide +kernel) rfl
theorem r_X10_apply_135 : IOK WB AD SR FW TB md_X10_apply 135 (.invokevirtual 165, 15, 10, 0, []) := io_virt (by decide +kernel) tb_X10_push (Or.inl (wb_3 180 rfl rfl)) in_X10_push se_X10_push ⟨_, rfl, rfl⟩ pr_X10_push (by decide)
theorem r_X10_apply_138 : IOK WB AD SR FW TB md_X10_apply 138 (.ireturn, 0, 0, 0, []) := io_plain (by decide +kernel) rfl
set_option maxRecDepth 100000 in
theorem ok_X10_apply_0 : ∀ q ∈ tl_X10_apply_0, IOK WB AD SR FW TB md_X10_apply q.1 q.2 := List.forall_mem_cons.mpr ⟨r_X10_apply_0, List.forall_mem_cons.mpr ⟨r_X10_apply_1, List.forall_mem_cons.mpr ⟨r_X10_apply_4, List.forall_mem_cons.mpr ⟨r_X10_apply_5, List.forall_mem_cons.mpr ⟨r_X10_apply_8, List.forall_mem_cons.mpr ⟨r_X10_apply_21, List.forall_mem_cons.mpr ⟨r_X10_apply_22, List.forall_mem_cons.mpr ⟨r_X10_apply_25, List.forall_mem_cons.mpr ⟨r_X10_apply_28, List.forall_mem_cons.mpr ⟨r_X10_apply_29, List.forall_mem_cons.mpr ⟨r_X10_apply_30, List.forall_mem_cons.mpr ⟨r_X10_apply_31, List.forall_mem_cons.mpr ⟨r_X10_apply_32, List.forall_mem_cons.mpr ⟨r_X10_apply_35, List.forall_mem_cons.mpr ⟨r_X10_apply_36, List.forall_mem_cons.mpr ⟨r_X10_apply_39, List.forall_mem_cons.mpr ⟨r_X10_apply_40, List.forall_mem_cons.mpr ⟨r_X10_apply_43, List.forall_mem_cons.mpr ⟨r_X10_apply_44, List.forall_mem_cons.mpr ⟨r_X10_apply_45, List.forall_mem_cons.mpr ⟨r_X10_apply_47, List.forall_mem_cons.mpr ⟨r_X10_apply_60, List.forall_mem_cons.mpr ⟨r_X10_apply_61, List.forall_mem_cons.mpr ⟨r_X10_apply_64, List.forall_mem_cons.mpr ⟨r_X10_apply_67, List.forall_mem_cons.mpr ⟨r_X10_apply_68, List.forall_mem_cons.mpr ⟨r_X10_apply_71, List.forall_mem_cons.mpr ⟨r_X10_apply_72, List.forall_mem_cons.mpr ⟨r_X10_apply_73, List.forall_mem_cons.mpr ⟨r_X10_apply_74, List.forall_mem_cons.mpr ⟨r_X10_apply_75, List.forall_mem_cons.mpr ⟨r_X10_apply_76, List.forall_mem_cons.mpr ⟨r_X10_apply_79, List.forall_mem_cons.mpr ⟨r_X10_apply_82, List.forall_mem_cons.mpr ⟨r_X10_apply_83, List.forall_mem_cons.mpr ⟨r_X10_apply_86, List.forall_mem_cons.mpr ⟨r_X10_apply_87, List.forall_mem_cons.mpr ⟨r_X10_apply_90, List.forall_mem_cons.mpr ⟨r_X10_apply_93, List.forall_mem_cons.mpr ⟨r_X10_apply_96, fun _ h => absurd h List.not_mem_nil⟩⟩⟩⟩⟩⟩⟩⟩⟩⟩⟩⟩⟩⟩⟩⟩⟩⟩⟩⟩⟩⟩⟩⟩⟩⟩⟩⟩⟩⟩⟩⟩⟩⟩⟩⟩⟩⟩⟩⟩
set_option maxRecDepth 100000 in
theorem tq_X10_apply_0 : tf_X10_apply_0 = tl_X10_apply_0.map (fun q => (q.1, stepOf NPf md_X10_apply q.2)) := rfl
set_option maxRecDepth 100000 in
theorem ok_X10_apply_1 : ∀ q ∈ tl_X10_apply_1, IOK WB AD SR FW TB md_X10_apply q.1 q.2 := List.forall_mem_cons.mpr ⟨r_X10_apply_99, List.forall_mem_cons.mpr ⟨r_X10_apply_100, List.forall_mem_cons.mpr ⟨r_X10_apply_103, List.forall_mem_cons.mpr ⟨r_X10_apply_104, List.forall_mem_cons.mpr ⟨r_X10_apply_105, List.forall_mem_cons.mpr ⟨r_X10_apply_108, List.forall_mem_cons.mpr ⟨r_X10_apply_109, List.forall_mem_cons.mpr ⟨r_X10_apply_110, List.forall_mem_cons.mpr ⟨r_X10_apply_123, List.forall_mem_cons.mpr ⟨r_X10_apply_124, List.forall_mem_cons.mpr ⟨r_X10_apply_125, List.forall_mem_cons.mpr ⟨r_X10_apply_128, List.forall_mem_cons.mpr ⟨r_X10_apply_129, List.forall_mem_cons.mpr ⟨r_X10_apply_130, List.forall_mem_cons.mpr ⟨r_X10_apply_133, List.forall_mem_cons.mpr ⟨r_X10_apply_134, List.forall_mem_cons.mpr ⟨r_X10_apply_135, List.forall_mem_cons.mpr ⟨r_X10_apply_138, fun _ h => absurd h List.not_mem_nil⟩⟩⟩⟩⟩⟩⟩⟩⟩⟩⟩⟩⟩⟩⟩⟩⟩⟩
set_option maxRecDepth 100000 in
theorem tq_X10_apply_1 : tf_X10_apply_1 = tl_X10_apply_1.map (fun q => (q.1, stepOf NPf md_X10_apply q.2)) := rfl
theorem ro_X10_apply : RowsOK (md_X10_apply, tl_X10_apply) tf_X10_apply := rows_app ⟨tq_X10_apply_0, ok_X10_apply_0⟩ (⟨tq_X10_apply_1, ok_X10_apply_1⟩)
theorem r_X7_addOperator_0 : IOK WB AD SR FW TB md_X7_addOperator 0 (.aload_n 0, 0, 0, 0, []) := io_plain (by decide +kernel) rfl
theorem r_X7_addOperator_1 : IOK WB AD SR FW TB md_X7_addOperator 1 (.getfield 49, 7, 1, 0, []) := io_get (by decide +kernel) fo_RX7_49
theorem r_X7_addOperator_4 : IOK WB AD SR FW TB md_X7_addOperator 4 (.istore 4, 0, 0, 0, []) := io_plain (by decide +kernel) rfl
theorem r_X7_addOperator_6 : IOK WB AD SR FW TB md_X7_addOperator 6 (.aload_n 0, 0, 0, 0, []) := io_plain (by decide +kernel) rfl
theorem r_X7_addOperator_7 : IOK WB AD SR FW TB md_X7_addOperator 7 (.getfield 18, 7, 4, 2, []) := io_get (by decide +kernel) fo_RX7_18
theorem r_X7_addOperator_10 : IOK WB AD SR FW TB md_X7_addOperator 10 (.iload 4, 0, 0, 0, []) := io_plain (by decide +kernel) rfl
theorem r_X7_addOperator_12 : IOK WB AD SR FW TB md_X7_addOperator 12 (.iload_n 1, 0, 0, 0, []) := io_plain (by decide +kernel) rfl
theorem r_X7_addOperator_13 : IOK WB AD SR FW TB md_X7_addOperator 13 (.iastore, 0, 0, 0, []) := io_plain (by decide +kernel) rfl
theorem r_X7_addOperator_14 : IOK WB AD SR FW TB md_X7_addOperator 14 (.aload_n 0, 0, 0, 0, []) := io_plain (by decide +kernel) rfl
theorem r_X7_addOperator_15 : IOK WB AD SR FW TB md_X7_addOperator 15 (.getfield 21, 7, 5, 2, []) := io_get (by decide +kernel) fo_RX7_21
theorem r_X7_addOperator_18 : IOK WB AD SR FW TB md_X7_addOperator 18 (.iload 4, 0, 0, 0, []) := io_plain (by decide +kernel) rfl
theorem r_X7_addOperator_20 : IOK WB AD SR FW TB md_X7_addOperator 20 (.iload_n 2, 0, 0, 0, []) := io_plain (by decide +kernel) rfl
theorem r_X7_addOperator_21 : IOK WB AD SR FW TB md_X7_addOperator 21 (.iastore, 0, 0, 0, []) := io_plain (by decide +kernel) rfl
theorem r_X7_addOperator_22 : IOK WB AD SR FW TB md_X7_addOperator 22 (.aload_n 0, 0, 0, 0, []) := io_plain (by decide +kernel) rfl
theorem r_X7_addOperator_23 : IOK WB AD SR FW TB md_X7_addOperator 23 (.getfield 24, 7, 6, 2, []) := io_get (by decide +kernel) fo_RX7_24
theorem r_X7_addOperator_26 : IOK WB AD SR FW TB md_X7_addOperator 26 (.iload 4, 0, 0, 0, []) := io_plain (by decide +kernel) rfl
theorem r_X7_addOperator_28 : IOK WB AD SR FW TB md_X7_addOperator 28 (.iload_n 3, 0, 0, 0, []) := io_plain (by decide +kernel) rfl
theorem r_X7_addOperator_29 : IOK WB AD SR FW TB md_X7_addOperator 29 (.iastore, 0, 0, 0, []) := io_plain (by decide +kernel) rfl
theorem r_X7_addOperator_30 : IOK WB AD SR FW TB md_X7_addOperator 30 (.aload_n 0, 0, 0, 0, []) := io_plain (by decide +kernel) rfl
theorem r_X7_addOperator_31 : IOK WB AD SR FW TB md_X7_addOperator 31 (.getfield 36, 7, 10, 2, []) := io_get (by decide +kernel) fo_RX7_36
theorem r_X7_addOperator_34 : IOK WB AD SR FW TB md_X7_addOperator 34 (.iload 4, 0, 0, 0, []) := io_plain (by decide +kernel) rfl
theorem r_X7_addOperator_36 : IOK WB AD SR FW TB md_X7_addOperator 36 (.iload 4, 0, 0, 0, []) := io_plain (by decide +kernel) rfl
theorem r_X7_addOperator_38 : IOK WB AD SR FW TB md_X7_addOperator 38 (.iastore, 0, 0, 0, []) := io_plain (by decide +kernel) rfl
theorem r_X7_addOperator_39 : IOK WB AD SR FW TB md_X7_addOperator 39 (.aload_n 0, 0, 0, 0, []) := io_plain (by decide +kernel) rfl
theorem r_X7_addOperator_40 : IOK WB AD SR FW TB md_X7_addOperator 40 (.dup, 0, 0, 0, []) := io_plain (by decide +kernel) rfl
theorem r_X7_addOperator_41 : IOK WB AD SR FW TB md_X7_addOperator 41 (.getfield 49, 7, 1, 0, []) := io_get (by decide +kernel) fo_RX7_49
theorem r_X7_addOperator_44 : IOK WB AD SR FW TB md_X7_addOperator 44 (.iconst 1, 0, 0, 0, []) := io_plain (by decide +kernel) rfl
theorem r_X7_addOperator_45 : IOK WB AD SR FW TB md_X7_addOperator 45 (.iadd, 0, 0, 0, []) := io_plain (by decide +kernel) rfl
theorem r_X7_addOperator_46 : IOK WB AD SR FW TB md_X7_addOperator 46 (.putfield 49, 7, 1, 0, []) := io_put (by decide +kernel) fo_RX7_49 po_RX7_0_7_1_0
theorem r_X7_addOperator_49 : IOK WB AD SR FW TB md_X7_addOperator 49 (.iload 4, 0, 0, 0, []) := io_plain (by decide +kernel) rfl
theorem r_X7_addOperator_51 : IOK WB AD SR FW TB md_X7_addOperator 51 (.ireturn, 0, 0, 0, []) := io_plain (by decide +kernel) rfl
set_option maxRecDepth 100000 in
theorem ok_X7_addOperator_0 : ∀ q ∈ tl_X7_addOperator, IOK WB AD SR FW TB md_X7_addOperator q.1 q.2 := List.forall_mem_cons.mpr ⟨r_X7_addOperator_0, List.forall_mem_cons.mpr ⟨r_X7_addOperator_1, List.forall_mem_cons.mpr ⟨r_X7_addOperator_4, List.forall_mem_cons.mpr ⟨r_X7_addOperator_6, List.forall_mem_cons.mpr ⟨r_X7_addOperator_7, List.forall_mem_cons.mpr ⟨r_X7_addOperator_10, List.forall_mem_cons.mpr ⟨r_X7_addOperator_12, List.forall_mem_cons.mpr ⟨r_X7_addOperator_13, List.forall_mem_cons.mpr ⟨r_X7_addOperator_14, List.forall_mem_cons.mpr ⟨r_X7_addOperator_15, List.forall_mem_cons.mpr ⟨r_X7_addOperator_18, List.forall_mem_cons.mpr ⟨r_X7_addOperator_20, List.forall_mem_cons.mpr ⟨r_X7_addOperator_21, List.forall_mem_cons.mpr ⟨r_X7_addOperator_22, List.forall_mem_cons.mpr ⟨r_X7_addOperator_23, List.forall_mem_cons.mpr ⟨r_X7_addOperator_26, List.forall_mem_cons.mpr ⟨r_X7_addOperator_28, List.forall_mem_cons.mpr ⟨r_X7_addOperator_29, List.forall_mem_cons.mpr ⟨r_X7_addOperator_30, List.forall_mem_cons.mpr ⟨r_X7_addOperator_31, List.forall_mem_cons.mpr ⟨r_X7_addOperator_34, List.forall_mem_cons.mpr ⟨r_X7_addOperator_36, List.forall_mem_cons.mpr ⟨r_X7_addOperator_38, List.forall_mem_cons.mpr ⟨r_X7_addOperator_39, List.forall_mem_cons.mpr ⟨r_X7_addOperator_40, List.forall_mem_cons.mpr ⟨r_X7_addOperator_41, List.forall_mem_cons.mpr ⟨r_X7_addOperator_44, List.forall_mem_cons.mpr ⟨r_X7_addOperator_45, List.forall_mem_cons.mpr ⟨r_X7_addOperator_46, List.forall_mem_cons.mpr ⟨r_X7_addOperator_49, List.forall_mem_cons.mpr ⟨r_X7_addOperator_51, fun _ h => absurd h List.not_mem_nil⟩⟩⟩⟩⟩⟩⟩⟩⟩⟩⟩⟩⟩⟩⟩⟩⟩⟩⟩⟩⟩⟩⟩⟩⟩⟩⟩⟩⟩⟩⟩
set_option maxRecDepth 100000 in
theorem tq_X7_addOperator_0 : tf_X7_addOperator = tl_X7_addOperator.map (fun q => (q.1, stepOf NPf md_X7_addOperator q.2)) := rfl
theorem ro_X7_addOperator : RowsOK (md_X7_addOperator, tl_X7_addOperator) tf_X7_addOperator := ⟨tq_X7_addOperator_0, ok_X7_addOperator_0⟩
theorem r_X8_init_0 : IOK WB AD SR FW TB md_X8_init 0 (.aload_n 0, 0, 0, 0, []) := io_plain (by decide +kernel) rfl
theorem r_X8_init_1 : IOK WB AD SR FW TB md_X8_init 1 (.invokespecial 3, 1000, 0, 0, []) := io_obj (by decide +kernel) (wb_1 93 rfl rfl) ob_1 ob_2
theorem r_X8_init_4 : IOK WB AD SR FW TB md_X8_init 4 (.aload_n 0, 0, 0, 0, []) := io_plain (by decide +kernel) rfl
theorem r_X8_init_5 : IOK WB AD SR FW TB md_X8_init 5 (.sipush 27500, 0, 0, 0, []) := io_plain (by decide +kernel) rfl
theorem r_X8_init_8 : IOK WB AD SR FW TB md_X8_init 8 (.newarray .int, 0, 0, 0, []) := io_newa (by decide +kernel) (Or.inl ⟨rfl, rfl⟩) ac_int
theorem r_X8_init_10 : IOK WB AD SR FW TB md_X8_init 10 (.putfield 9, 8, 1, 2, []) := io_put (by decide +kernel) fo_RX8_9 po_RX8_1_8_1_2
theorem r_X8_init_13 : IOK WB AD SR FW TB md_X8_init 13 (.aload_n 0, 0, 0, 0, []) := io_plain (by decide +kernel) rfl
theorem r_X8_init_14 : IOK WB AD SR FW TB md_X8_init 14 (.sipush 7500, 0, 0, 0, []) := io_plain (by decide +kernel) rfl
theorem r_X8_init_17 : IOK WB AD SR FW TB md_X8_init 17 (.putfield 15, 8, 2, 0, []) := io_put (by decide +kernel) fo_RX8_15 po_RX8_1_8_2_0
theorem r_X8_init_20 : IOK WB AD SR FW TB md_X8_init 20 (.aload_n 0, 0, 0, 0, []) := io_plain (by decide +kernel) rfl
theorem r_X8_init_21 : IOK WB AD SR FW TB md_X8_init 21 (.sipush 1280, 0, 0, 0, []) := io_plain (by decide +kernel) rfl
theorem r_X8_init_24 : IOK WB AD SR FW TB md_X8_init 24 (.newarray .int, 0, 0, 0, []) := io_newa (by decide +kernel) (Or.inl ⟨rfl, rfl⟩) ac_int
theorem r_X8_init_26 : IOK WB AD SR FW TB md_X8_init 26 (.putfield 19, 8, 3, 2, []) := io_put (by decide +kernel) fo_RX8_19 po_RX8_1_8_3_2
theorem r_X8_init_29 : IOK WB AD SR FW TB md_X8_init 29 (.aload_n 0, 0, 0, 0, []) := io_plain (by decide +kernel) rfl
theorem r_X8_init_30 : IOK WB AD SR FW TB md_X8_init 30 (.iconst 5, 0, 0, 0, []) := io_plain (by decide +kernel) rfl
theorem r_X8_init_31 : IOK WB AD SR FW TB md_X8_init 31 (.newarray .int, 0, 0, 0, []) := io_newa (by decide +kernel) (Or.inl ⟨rfl, rfl⟩) ac_int
theorem r_X8_init_33 : IOK WB AD SR FW TB md_X8_init 33 (.putfield 22, 8, 5, 2, []) := io_put (by decide +kernel) fo_RX8_22 po_RX8_1_8_5_2
theorem r_X8_init_36 : IOK WB AD SR FW TB md_X8_init 36 (.aload_n 0, 0, 0, 0, []) := io_plain (by decide +kernel) rfl
theorem r_X8_init_37 : IOK WB AD SR FW TB md_X8_init 37 (.iconst 5, 0, 0, 0, []) := io_plain (by decide +kernel) rfl
theorem r_X8_init_38 : IOK WB AD SR FW TB md_X8_init 38 (.newarray .int, 0, 0, 0, []) := io_newa (by decide +kernel) (Or.inl ⟨rfl, rfl⟩) ac_int
theorem r_X8_init_40 : IOK WB AD SR FW TB md_X8_init 40 (.putfield 25, 8, 6, 2, []) := io_put (by decide +kernel) fo_RX8_25 po_RX8_1_8_6_2
theorem r_X8_init_43 : IOK WB AD SR FW TB md_X8_init 43 (.aload_n 0, 0, 0, 0, []) := io_plain (by decide +kernel) rfl
theorem r_X8_init_44 : IOK WB AD SR FW TB md_X8_init 44 (.bipush 20, 0, 0, 0, []) := io_plain (by decide +kernel) rfl
theorem r_X8_init_46 : IOK WB AD SR FW TB md_X8_init 46 (.newarray .int, 0, 0, 0, []) := io_newa (by decide +kernel) (Or.inl ⟨rfl, rfl⟩) ac_int
theorem r_X8_init_48 : IOK WB AD SR FW TB md_X8_init 48 (.putfield 28, 8, 7, 2, []) := io_put (by decide +kernel) fo_RX8_28 po_RX8_1_8_7_2
theorem r_X8_init_51 : IOK WB AD SR FW TB md_X8_init 51 (.aload_n 0, 0, 0, 0, []) := io_plain (by decide +kernel) rfl
theorem r_X8_init_52 : IOK WB AD SR FW TB md_X8_init 52 (.iconst (-1), 0, 0, 0, []) := io_plain (by decide +kernel) rfl
theorem r_X8_init_53 : IOK WB AD SR FW TB md_X8_init 53 (.putfield 31, 8, 8, 0, []) := io_put (by decide +kernel) fo_RX8_31 po_RX8_1_8_8_0
theorem r_X8_init_56 : IOK WB AD SR FW TB md_X8_init 56 (.aload_n 0, 0, 0, 0, []) := io_plain (by decide +kernel) rfl
theorem r_X8_init_57 : IOK WB AD SR FW TB md_X8_init 57 (.iconst (-1), 0, 0, 0, []) := io_plain (by decide +kernel) rfl
theorem r_X8_init_58 : IOK WB AD SR FW TB md_X8_init 58 (.putfield 34, 8, 9, 0, []) := io_put (by decide +kernel) fo_RX8_34 po_RX8_1_8_9_0
theorem r_X8_init_61 : IOK WB AD SR FW TB md_X8_init 61 (.aload_n 0, 0, 0, 0, []) := io_plain (by decide +kernel) rfl
theorem r_X8_init_62 : IOK WB AD SR FW TB md_X8_init 62 (.aload_n 1, 0, 0, 0, []) := io_plain (by decide +kernel) rfl
theorem r_X8_init_63 : IOK WB AD SR FW TB md_X8_init 63 (.putfield 37, 8, 0, 2, []) := io_put (by decide +kernel) fo_RX8_37 po_RX8_1_8_0_2
theorem r_X8_init_66 : IOK WB AD SR FW TB md_X8_init 66 (.iconst 0, 0, 0, 0, []) := io_plain (by decide +kernel) rfl
theorem r_X8_init_67 : IOK WB AD SR FW TB md_X8_init 67 (.istore_n 2, 0, 0, 0, []) := io_plain (by decide +kernel) rfl
theorem r_X8_init_68 : IOK WB AD SR FW TB md_X8_init 68 (.iload_n 2, 0, 0, 0, []) := io_plain (by decide +kernel) rfl
theorem r_X8_init_69 : IOK WB AD SR FW TB md_X8_init 69 (.bipush 20, 0, 0, 0, []) := io_plain (by decide +kernel) rfl
theorem r_X8_init_71 : IOK WB AD SR FW TB md_X8_init 71 (.if_icmp .ge 16, 0, 0, 0, []) := io_plain (by decide +kernel) rfl
theorem r_X8_init_74 : IOK WB AD SR FW TB md_X8_init 74 (.aload_n 0, 0, 0, 0, []) := io_plain (by decide +kernel) rfl
theorem r_X8_init_75 : IOK WB AD SR FW TB md_X8_init 75 (.getfield 9, 8, 1, 2, []) := io_get (by decide +kernel) fo_RX8_9
theorem r_X8_init_78 : IOK WB AD SR FW TB md_X8_init 78 (.iload_n 2, 0, 0, 0, []) := io_plain (by decide +kernel) rfl
theorem r_X8_init_79 : IOK WB AD SR FW TB md_X8_init 79 (.iload_n 2, 0, 0, 0, []) := io_plain (by decide +kernel) rfl
theorem r_X8_init_80 : IOK WB AD SR FW TB md_X8_init 80 (.iastore, 0, 0, 0, []) := io_plain (by decide +kernel) rfl
theorem r_X8_init_81 : IOK WB AD SR FW TB md_X8_init 81 (.iinc 2 1, 0, 0, 0, []) := io_plain (by decide +kernel) rfl
theorem r_X8_init_84 : IOK WB AD SR FW TB md_X8_init 84 (.goto (-16), 0, 0, 0, []) := io_plain (by decide +kernel) rfl
theorem r_X8_init_87 : IOK WB AD SR FW TB md_X8_init 87 (.return_, 0, 0, 0, []) := io_void (by decide +kernel) rfl
set_option maxRecDepth 100000 in
theorem ok_X8_init_0 : ∀ q ∈ tl_X8_init_0, IOK WB AD SR FW TB md_X8_init q.1 q.2 := List.forall_mem_cons.mpr ⟨r_X8_init_0, List.forall_mem_cons.mpr ⟨r_X8_init_1, List.forall_mem_cons.mpr ⟨r_X8_init_4, List.forall_mem_cons.mpr ⟨r_X8_init_5, List.forall_mem_cons.mpr ⟨r_X8_init_8, List.forall_mem_cons.mpr ⟨r_X8_init_10, List.forall_mem_cons.mpr ⟨r_X8_init_13, List.forall_mem_cons.mpr ⟨r_X8_init_14, List.forall_mem_cons.mpr ⟨r_X8_init_17, List.forall_mem_cons.mpr ⟨r_X8_init_20, List.forall_mem_cons.mpr ⟨r_X8_init_21, List.forall_mem_cons.mpr ⟨r_X8_init_24, List.forall_mem_cons.mpr ⟨r_X8_init_26, List.forall_mem_cons.mpr ⟨r_X8_init_29, List.forall_mem_cons.mpr ⟨r_X8_init_30, List.forall_mem_cons.mpr ⟨r_X8_init_31, List.forall_mem_cons.mpr ⟨r_X8_init_33, List.forall_mem_cons.mpr ⟨r_X8_init_36, List.forall_mem_cons.mpr ⟨r_X8_init_37, List.forall_mem_cons.mpr ⟨r_X8_init_38, List.forall_mem_cons.mpr ⟨r_X8_init_40, List.forall_mem_cons.mpr ⟨r_X8_init_43, List.forall_mem_cons.mpr ⟨r_X8_init_44, List.forall_mem_cons.mpr ⟨r_X8_init_46, List.forall_mem_cons.mpr ⟨r_X8_init_48, List.forall_mem_cons.mpr ⟨r_X8_init_51, List.forall_mem_cons.mpr ⟨r_X8_init_52, List.forall_mem_cons.mpr ⟨r_X8_init_53, List.forall_mem_cons.mpr ⟨r_X8_init_56, List.forall_mem_cons.mpr ⟨r_X8_init_57, List.forall_mem_cons.mpr ⟨r_X8_init_58, List.forall_mem_cons.mpr ⟨r_X8_init_61, List.forall_mem_cons.mpr ⟨r_X8_init_62, List.forall_mem_cons.mpr ⟨r_X8_init_63, List.forall_mem_cons.mpr ⟨r_X8_init_66, List.forall_mem_cons.mpr ⟨r_X8_init_67, List.forall_mem_cons.mpr ⟨r_X8_init_68, List.forall_mem_cons.mpr ⟨r_X8_init_69, List.forall_mem_cons.mpr ⟨r_X8_init_71, List.forall_mem_cons.mpr ⟨r_X8_init_74, fun _ h => absurd h List.not_mem_nil⟩⟩⟩⟩⟩⟩⟩⟩⟩⟩⟩⟩⟩⟩⟩⟩⟩⟩⟩⟩⟩⟩⟩⟩⟩⟩⟩⟩⟩⟩⟩⟩⟩⟩⟩⟩⟩⟩⟩⟩
set_option maxRecDepth 100000 in
theorem tq_X8_init_0 : tf_X8_init_0 = tl_X8_init_0.map (fun q => (q.1, stepOf NPf md_X8_init q.2)) := rfl
set_option maxRecDepth 100000 in
theorem ok_X8_init_1 : ∀ q ∈ tl_X8_init_1, IOK WB AD SR FW TB md_X8_init q.1 q.2 := List.forall_mem_cons.mpr ⟨r_X8_init_75, List.forall_mem_cons.mpr ⟨r_X8_init_78, List.forall_mem_cons.mpr ⟨r_X8_init_79, List.forall_mem_cons.mpr ⟨r_X8_init_80, List.forall_mem_cons.mpr ⟨r_X8_init_81, List.forall_mem_cons.mpr ⟨r_X8_init_84, List.forall_mem_cons.mpr ⟨r_X8_init_87, fun _ h => absurd h List.not_mem_nil⟩⟩⟩⟩⟩⟩⟩
set_option maxRecDepth 100000 in
theorem tq_X8_init_1 : tf_X8_init_1 = tl_X8_init_1.map (fun q => (q.1, stepOf NPf md_X8_init q.2)) := rfl
theorem ro_X8_init : RowsOK (md_X8_init, tl_X8_init) tf_X8_init := rows_app ⟨tq_X8_init_0, ok_X8_init_0⟩ (⟨tq_X8_init_1, ok_X8_init_1⟩)
theorem r_X7_hasSort_0 : IOK WB AD SR FW TB md_X7_hasSort 0 (.iload_n 1, 0, 0, 0, []) := io_plain (by decide +kernel) rfl
theorem r_X7_hasSort_1 : IOK WB AD SR FW TB md_X7_hasSort 1 (.ifCond .lt 15, 0, 0, 0, []) := io_plain (by decide +kernel) rfl
theorem r_X7_hasSort_4 : IOK WB AD SR FW TB md_X7_hasSort 4 (.iload_n 1, 0, 0, 0, []) := io_plain (by decide +kernel) rfl
theorem r_X7_hasSort_5 : IOK WB AD SR FW TB md_X7_hasSort 5 (.aload_n 0, 0, 0, 0, []) := io_plain (by decide +kernel) rfl
theorem r_X7_hasSort_6 : IOK WB AD SR FW TB md_X7_hasSort 6 (.getfield 45, 7, 0, 0, []) := io_get (by decide +kernel) fo_RX7_45
theorem r_X7_hasSort_9 : IOK WB AD SR FW TB md_X7_hasSort 9 (.if_icmp .ge 7, 0, 0, 0, []) := io_plain (by decide +kernel) rfl
theorem r_X7_hasSort_12 : IOK WB AD SR FW TB md_X7_hasSort 12 (.iconst 1, 0, 0, 0, []) := io_plain (by decide +kernel) rfl
theorem r_X7_hasSort_13 : IOK WB AD SR FW TB md_X7_hasSort 13 (.goto 4, 0, 0, 0, []) := io_plain (by decide +kernel) rfl
theorem r_X7_hasSort_17 : IOK WB AD SR FW TB md_X7_hasSort 17 (.ireturn, 0, 0, 0, []) := io_plain (by decide +kernel) rfl
set_option maxRecDepth 100000 in
theorem ok_X7_hasSort_0 : ∀ q ∈ tl_X7_hasSort, IOK WB AD SR FW TB md_X7_hasSort q.1 q.2 := List.forall_mem_cons.mpr ⟨r_X7_hasSort_0, List.forall_mem_cons.mpr ⟨r_X7_hasSort_1, List.forall_mem_cons.mpr ⟨r_X7_hasSort_4, List.forall_mem_cons.mpr ⟨r_X7_hasSort_5, List.forall_mem_cons.mpr ⟨r_X7_hasSort_6, List.forall_mem_cons.mpr ⟨r_X7_hasSort_9, List.forall_mem_cons.mpr ⟨r_X7_hasSort_12, List.forall_mem_cons.mpr ⟨r_X7_hasSort_13, List.forall_mem_cons.mpr ⟨r_X7_hasSort_17, fun _ h => absurd h List.not_mem_nil⟩⟩⟩⟩⟩⟩⟩⟩⟩
set_option maxRecDepth 100000 in
theorem tq_X7_hasSort_0 : tf_X7_hasSort = tl_X7_hasSort.map (fun q => (q.1, stepOf NPf md_X7_hasSort q.2)) := rfl
theorem ro_X7_hasSort : RowsOK (md_X7_hasSort, tl_X7_hasSort) tf_X7_hasSort := ⟨tq_X7_hasSort_0, ok_X7_hasSort_0⟩
theorem r_X10_tell_0 : IOK WB AD SR FW TB md_X10_tell 0 (.iload_n 2, 0, 0, 0, []) := io_plain (by decide +kernel) rfl
theorem r_X10_tell_1 : IOK WB AD SR FW TB md_X10_tell 1 (.ifCond .eq 7, 0, 0, 0, []) := io_plain (by decide +kernel) rfl
theorem r_X10_tell_8 : IOK WB AD SR FW TB md_X10_tell 8 (.iconst 2, 0, 0, 0, []) := io_plain (by decide +kernel) rfl
theorem r_X10_tell_9 : IOK WB AD SR FW TB md_X10_tell 9 (.istore_n 3, 0, 0, 0, []) := io_plain (by decide +kernel) rfl
theorem r_X10_tell_10 : IOK WB AD SR FW TB md_X10_tell 10 (.aload_n 0, 0, 0, 0, []) := io_plain (by decide +kernel) rfl
theorem r_X10_tell_11 : IOK WB AD SR FW TB md_X10_tell 11 (.getfield 160, 10, 8, 0, []) := io_get (by decide +kernel) fo_RX10_160
theorem r_X10_tell_14 : IOK WB AD SR FW TB md_X10_tell 14 (.iload_n 3, 0, 0, 0, []) := io_plain (by decide +kernel) rfl
theorem r_X10_tell_15 : IOK WB AD SR FW TB md_X10_tell 15 (.if_icmp .ge 13, 0, 0, 0, []) := io_plain (by decide +kernel) rfl
theorem r_X10_tell_28 : IOK WB AD SR FW TB md_X10_tell 28 (.aload_n 0, 0, 0, 0, []) := io_plain (by decide +kernel) rfl
theorem r_X10_tell_29 : IOK WB AD SR FW TB md_X10_tell 29 (.getfield 160, 10, 8, 0, []) := io_get (by decide +kernel) fo_RX10_160
theorem r_X10_tell_32 : IOK WB AD SR FW TB md_X10_tell 32 (.iload_n 3, 0, 0, 0, []) := io_plain (by decide +kernel) rfl
theorem r_X10_tell_33 : IOK WB AD SR FW TB md_X10_tell 33 (.isub, 0, 0, 0, []) := io_plain (by decide +kernel) rfl
theorem r_X10_tell_34 : IOK WB AD SR FW TB md_X10_tell 34 (.istore 4, 0, 0, 0, []) := io_plain (by decide +kernel) rfl
theorem r_X10_tell_36 : IOK WB AD SR FW TB md_X10_tell 36 (.aload_n 0, 0, 0, 0, []) := io_plain (by decide +kernel) rfl
theorem r_X10_tell_37 : IOK WB AD SR FW TB md_X10_tell 37 (.getfield 21, 10, 1, 2, []) := io_get (by decide +kernel) fo_RX10_21
theorem r_X10_tell_40 : IOK WB AD SR FW TB md_X10_tell 40 (.iload 4, 0, 0, 0, []) := io_plain (by decide +kernel) rfl
theorem r_X10_tell_42 : IOK WB AD SR FW TB md_X10_tell 42 (.invokestatic 176, 17, 10, 0, []) := io_stat (by decide +kernel) tb_X10_stackAt (Or.inl (wb_3 184 rfl rfl)) st_X10_stackAt pr_X10_stackAt
theorem r_X10_tell_45 : IOK WB AD SR FW TB md_X10_tell 45 (.invokevirtual 252, 33, 8, 0, []) := io_virt (by decide +kernel) tb_X8_canBeLeft (Or.inl (wb_4 20 rfl rfl)) in_X8_canBeLeft se_X8_canBeLeft ⟨_, rfl, rfl⟩ pr_X8_canBeLeft (by decide)
theorem r_X10_tell_48 : IOK WB AD SR FW TB md_X10_tell 48 (.ifCond .ne 13, 0, 0, 0, []) := io_plain (by decide +kernel) rfl
theorem r_X10_tell_61 : IOK WB AD SR FW TB md_X10_tell 61 (.iconst 0, 0, 0, 0, []) := io_plain (by decide +kernel) rfl
theorem r_X10_tell_62 : IOK WB AD SR FW TB md_X10_tell 62 (.istore 5, 0, 0, 0, []) := io_plain (by decide +kernel) rfl
theorem r_X10_tell_64 : IOK WB AD SR FW TB md_X10_tell 64 (.iconst 1, 0, 0, 0, []) := io_plain (by decide +kernel) rfl
theorem r_X10_tell_65 : IOK WB AD SR FW TB md_X10_tell 65 (.istore 6, 0, 0, 0, []) := io_plain (by decide +kernel) rfl
theorem r_X10_tell_67 : IOK WB AD SR FW TB md_X10_tell 67 (.iload 6, 0, 0, 0, []) := io_plain (by decide +kernel) rfl
theorem r_X10_tell_69 : IOK WB AD SR FW TB md_X10_tell 69 (.iload_n 3, 0, 0, 0, []) := io_plain (by decide +kernel) rfl
theorem r_X10_tell_70 : IOK WB AD SR FW TB md_X10_tell 70 (.if_icmp .ge 44, 0, 0, 0, []) := io_plain (by decide +kernel) rfl
theorem r_X10_tell_73 : IOK WB AD SR FW TB md_X10_tell 73 (.iload 5, 0, 0, 0, []) := io_plain (by decide +kernel) rfl
theorem r_X10_tell_75 : IOK WB AD SR FW TB md_X10_tell 75 (.aload_n 0, 0, 0, 0, []) := io_plain (by decide +kernel) rfl
theorem r_X10_tell_76 : IOK WB AD SR FW TB md_X10_tell 76 (.getfield 21, 10, 1, 2, []) := io_get (by decide +kernel) fo_RX10_21
theorem r_X10_tell_79 : IOK WB AD SR FW TB md_X10_tell 79 (.iload 4, 0, 0, 0, []) := io_plain (by decide +kernel) rfl
theorem r_X10_tell_81 : IOK WB AD SR FW TB md_X10_tell 81 (.iload 6, 0, 0, 0, []) := io_plain (by decide +kernel) rfl
theorem r_X10_tell_83 : IOK WB AD SR FW TB md_X10_tell 83 (.iadd, 0, 0, 0, []) := io_plain (by decide +kernel) rfl
theorem r_X10_tell_84 : IOK WB AD SR FW TB md_X10_tell 84 (.invokestatic 176, 17, 10, 0, []) := io_stat (by decide +kernel) tb_X10_stackAt (Or.inl (wb_3 184 rfl rfl)) st_X10_stackAt pr_X10_stackAt
theorem r_X10_tell_87 : IOK WB AD SR FW TB md_X10_tell 87 (.invokevirtual 232, 7, 8, 0, []) := io_virt (by decide +kernel) tb_X8_variablesAt (Or.inl (wb_4 39 rfl rfl)) in_X8_variablesAt se_X8_variablesAt ⟨_, rfl, rfl⟩ pr_X8_variablesAt (by decide)
theorem r_X10_tell_90 : IOK WB AD SR FW TB md_X10_tell 90 (.aload_n 0, 0, 0, 0, []) := io_plain (by decide +kernel) rfl
theorem r_X10_tell_91 : IOK WB AD SR FW TB md_X10_tell 91 (.getfield 21, 10, 1, 2, []) := io_get (by decide +kernel) fo_RX10_21
theorem r_X10_tell_94 : IOK WB AD SR FW TB md_X10_tell 94 (.iload 4, 0, 0, 0, []) := io_plain (by decide +kernel) rfl
theorem r_X10_tell_96 : IOK WB AD SR FW TB md_X10_tell 96 (.invokestatic 176, 17, 10, 0, []) := io_stat (by decide +kernel) tb_X10_stackAt (Or.inl (wb_3 184 rfl rfl)) st_X10_stackAt pr_X10_stackAt
theorem r_X10_tell_99 : IOK WB AD SR FW TB md_X10_tell 99 (.invokevirtual 232, 7, 8, 0, []) := io_virt (by decide +kernel) tb_X8_variablesAt (Or.inl (wb_4 39 rfl rfl)) in_X8_variablesAt se_X8_variablesAt ⟨_, rfl, rfl⟩ pr_X8_variablesAt (by decide)
theorem r_X10_tell_102 : IOK WB AD SR FW TB md_X10_tell 102 (.iconst (-1), 0, 0, 0, []) := io_plain (by decide +kernel) rfl
theorem r_X10_tell_103 : IOK WB AD SR FW TB md_X10_tell 103 (.ixor, 0, 0, 0, []) := io_plain (by decide +kernel) rfl
theorem r_X10_tell_104 : IOK WB AD SR FW TB md_X10_tell 104 (.iand, 0, 0, 0, []) := io_plain (by decide +kernel) rfl
theorem r_X10_tell_105 : IOK WB AD SR FW TB md_X10_tell 105 (.ior, 0, 0, 0, []) := io_plain (by decide +kernel) rfl
theorem r_X10_tell_106 : IOK WB AD SR FW TB md_X10_tell 106 (.istore 5, 0, 0, 0, []) := io_plain (by decide +kernel) rfl
theorem r_X10_tell_108 : IOK WB AD SR FW TB md_X10_tell 108 (.iinc 6 1, 0, 0, 0, []) := io_plain (by decide +kernel) rfl
theorem r_X10_tell_111 : IOK WB AD SR FW TB md_X10_tell 111 (.goto (-44), 0, 0, 0, []) := io_plain (by decide +kernel) rfl
theorem r_X10_tell_114 : IOK WB AD SR FW TB md_X10_tell 114 (.iload 5, 0, 0, 0, []) := io_plain (by decide +kernel) rfl
theorem r_X10_tell_116 : IOK WB AD SR FW TB md_X10_tell 116 (.ifCond .eq 14, 0, 0, 0, []) := io_plain (by decide +kernel) rfl
theorem r_X10_tell_130 : IOK WB AD SR FW TB md_X10_tell 130 (.iload_n 1, 0, 0, 0, []) := io_plain (by decide +kernel) rfl
theorem r_X10_tell_131 : IOK WB AD SR FW TB md_X10_tell 131 (.ifCond .eq 18, 0, 0, 0, []) := io_plain (by decide +kernel) rfl
theorem r_X10_tell_149 : IOK WB AD SR FW TB md_X10_tell 149 (.aload_n 0, 0, 0, 0, []) := io_plain (by decide +kernel) rfl
theorem r_X10_tell_150 : IOK WB AD SR FW TB md_X10_tell 150 (.getfield 30, 10, 2, 2, []) := io_get (by decide +kernel) fo_RX10_30
theorem r_X10_tell_153 : IOK WB AD SR FW TB md_X10_tell 153 (.getfield 262, 2, 2, 0, []) := io_get (by decide +kernel) fo_RX10_262
theorem r_X10_tell_156 : IOK WB AD SR FW TB md_X10_tell 156 (.bipush 12, 0, 0, 0, []) := io_plain (by decide +kernel) rfl
theorem r_X10_tell_158 : IOK WB AD SR FW TB md_X10_tell 158 (.if_icmp .lt 14, 0, 0, 0, []) := io_plain (by decide +kernel) rfl
theorem r_X10_tell_172 : IOK WB AD SR FW TB md_X10_tell 172 (.iload_n 1, 0, 0, 0, []) := io_plain (by decide +kernel) rfl
theorem r_X10_tell_173 : IOK WB AD SR FW TB md_X10_tell 173 (.ifCond .eq 16, 0, 0, 0, []) := io_plain (by decide +kernel) rfl
theorem r_X10_tell_189 : IOK WB AD SR FW TB md_X10_tell 189 (.aload_n 0, 0, 0, 0, []) := io_plain (by decide +kernel) rfl
theorem r_X10_tell_190 : IOK WB AD SR FW TB md_X10_tell 190 (.getfield 30, 10, 2, 2, []) := io_get (by decide +kernel) fo_RX10_30
theorem r_X10_tell_193 : IOK WB AD SR FW TB md_X10_tell 193 (.getfield 262, 2, 2, 0, []) := io_get (by decide +kernel) fo_RX10_262
theorem r_X10_tell_196 : IOK WB AD SR FW TB md_X10_tell 196 (.istore 6, 0, 0, 0, []) := io_plain (by decide +kernel) rfl
theorem r_X10_tell_198 : IOK WB AD SR FW TB md_X10_tell 198 (.iconst 0, 0, 0, 0, []) := io_plain (by decide +kernel) rfl
theorem r_X10_tell_199 : IOK WB AD SR FW TB md_X10_tell 199 (.istore 7, 0, 0, 0, []) := io_plain (by decide +kernel) rfl
theorem r_X10_tell_201 : IOK WB AD SR FW TB md_X10_tell 201 (.iload 7, 0, 0, 0, []) := io_plain (by decide +kernel) rfl
theorem r_X10_tell_203 : IOK WB AD SR FW TB md_X10_tell 203 (.iload_n 3, 0, 0, 0, []) := io_plain (by decide +kernel) rfl
theorem r_X10_tell_204 : IOK WB AD SR FW TB md_X10_tell 204 (.if_icmp .ge 35, 0, 0, 0, []) := io_plain (by decide +kernel) rfl
theorem r_X10_tell_207 : IOK WB AD SR FW TB md_X10_tell 207 (.aload_n 0, 0, 0, 0, []) := io_plain (by decide +kernel) rfl
theorem r_X10_tell_208 : IOK WB AD SR FW TB md_X10_tell 208 (.getfield 21, 10, 1, 2, []) := io_get (by decide +kernel) fo_RX10_21
theorem r_X10_tell_211 : IOK WB AD SR FW TB md_X10_tell 211 (.iload 4, 0, 0, 0, []) := io_plain (by decide +kernel) rfl
theorem r_X10_tell_213 : IOK WB AD SR FW TB md_X10_tell 213 (.iload 7, 0, 0, 0, []) := io_plain (by decide +kernel) rfl
theorem r_X10_tell_215 : IOK WB AD SR FW TB md_X10_tell 215 (.iadd, 0, 0, 0, []) := io_plain (by decide +kernel) rfl
theorem r_X10_tell_216 : IOK WB AD SR FW TB md_X10_tell 216 (.invokestatic 176, 17, 10, 0, []) := io_stat (by decide +kernel) tb_X10_stackAt (Or.inl (wb_3 184 rfl rfl)) st_X10_stackAt pr_X10_stackAt
theorem r_X10_tell_219 : IOK WB AD SR FW TB md_X10_tell 219 (.aload_n 0, 0, 0, 0, []) := io_plain (by decide +kernel) rfl
theorem r_X10_tell_220 : IOK WB AD SR FW TB md_X10_tell 220 (.getfield 30, 10, 2, 2, []) := io_get (by decide +kernel) fo_RX10_30
theorem r_X10_tell_223 : IOK WB AD SR FW TB md_X10_tell 223 (.iload 6, 0, 0, 0, []) := io_plain (by decide +kernel) rfl
theorem r_X10_tell_225 : IOK WB AD SR FW TB md_X10_tell 225 (.iload 7, 0, 0, 0, []) := io_plain (by decide +kernel) rfl
theorem r_X10_tell_227 : IOK WB AD SR FW TB md_X10_tell 227 (.invokevirtual 267, 29, 2, 0, []) := io_virt (by decide +kernel) tb_X2_partAt (Or.inl (wb_4 42 rfl rfl)) in_X2_partAt se_X2_partAt ⟨_, rfl, rfl⟩ pr_X2_partAt (by decide)
theorem r_X10_tell_230 : IOK WB AD SR FW TB md_X10_tell 230 (.invokevirtual 193, 14, 8, 0, []) := io_virt (by decide +kernel) tb_X8_store (Or.inl (wb_3 187 rfl rfl)) in_X8_store se_X8_store ⟨_, rfl, rfl⟩ pr_X8_store (by decide)
theorem r_X10_tell_233 : IOK WB AD SR FW TB md_X10_tell 233 (.iinc 7 1, 0, 0, 0, []) := io_plain (by decide +kernel) rfl
theorem r_X10_tell_236 : IOK WB AD SR FW TB md_X10_tell 236 (.goto (-35), 0, 0, 0, []) := io_plain (by decide +kernel) rfl
theorem r_X10_tell_239 : IOK WB AD SR FW TB md_X10_tell 239 (.aload_n 0, 0, 0, 0, []) := io_plain (by decide +kernel) rfl
theorem r_X10_tell_240 : IOK WB AD SR FW TB md_X10_tell 240 (.iload 4, 0, 0, 0, []) := io_plain (by decide +kernel) rfl
theorem r_X10_tell_242 : IOK WB AD SR FW TB md_X10_tell 242 (.putfield 160, 10, 8, 0, []) := io_put (by decide +kernel) fo_RX10_160 po_RX10_0_10_8_0
theorem r_X10_tell_245 : IOK WB AD SR FW TB md_X10_tell 245 (.aload_n 0, 0, 0, 0, []) := io_plain (by decide +kernel) rfl
theorem r_X10_tell_246 : IOK WB AD SR FW TB md_X10_tell 246 (.getfield 30, 10, 2, 2, []) := io_get (by decide +kernel) fo_RX10_30
theorem r_X10_tell_249 : IOK WB AD SR FW TB md_X10_tell 249 (.iload_n 1, 0, 0, 0, []) := io_plain (by decide +kernel) rfl
theorem r_X10_tell_250 : IOK WB AD SR FW TB md_X10_tell 250 (.iload_n 2, 0, 0, 0, []) := io_plain (by decide +kernel) rfl
theorem r_X10_tell_251 : IOK WB AD SR FW TB md_X10_tell 251 (.invokevirtual 270, 25, 2, 0, []) := io_virt (by decide +kernel) tb_X2_add (Or.inl (wb_4 46 rfl rfl)) in_X2_add se_X2_add ⟨_, rfl, rfl⟩ pr_X2_add (by decide)
theorem r_X10_tell_254 : IOK WB AD SR FW TB md_X10_tell 254 (.ireturn, 0, 0, 0, []) := io_plain (by decide +kernel) rfl
set_option maxRecDepth 100000 in
theorem ok_X10_tell_0 : ∀ q ∈ tl_X10_tell_0, IOK WB AD SR FW TB md_X10_tell q.1 q.2 := List.forall_mem_cons.mpr ⟨r_X10_tell_0, List.forall_mem_cons.mpr ⟨r_X10_tell_1, List.forall_mem_cons.mpr ⟨r_X10_tell_8, List.forall_mem_cons.mpr ⟨r_X10_tell_9, List.forall_mem_cons.mpr ⟨r_X10_tell_10, List.forall_mem_cons.mpr ⟨r_X10_tell_11, List.forall_mem_cons.mpr ⟨r_X10_tell_14, List.forall_mem_cons.mpr ⟨r_X10_tell_15, List.forall_mem_cons.mpr ⟨r_X10_tell_28, List.forall_mem_cons.mpr ⟨r_X10_tell_29, List.forall_mem_cons.mpr ⟨r_X10_tell_32, List.forall_mem_cons.mpr ⟨r_X10_tell_33, List.forall_mem_cons.mpr ⟨r_X10_tell_34, List.forall_mem_cons.mpr ⟨r_X10_tell_36, List.forall_mem_cons.mpr ⟨r_X10_tell_37, List.forall_mem_cons.mpr ⟨r_X10_tell_40, List.forall_mem_cons.mpr ⟨r_X10_tell_42, List.forall_mem_cons.mpr ⟨r_X10_tell_45, List.forall_mem_cons.mpr ⟨r_X10_tell_48, List.forall_mem_cons.mpr ⟨r_X10_tell_61, List.forall_mem_cons.mpr ⟨r_X10_tell_62, List.forall_mem_cons.mpr ⟨r_X10_tell_64, List.forall_mem_cons.mpr ⟨r_X10_tell_65, List.forall_mem_cons.mpr ⟨r_X10_tell_67, List.forall_mem_cons.mpr ⟨r_X10_tell_69, List.forall_mem_cons.mpr ⟨r_X10_tell_70, List.forall_mem_cons.mpr ⟨r_X10_tell_73, List.forall_mem_cons.mpr ⟨r_X10_tell_75, List.forall_mem_cons.mpr ⟨r_X10_tell_76, List.forall_mem_cons.mpr ⟨r_X10_tell_79, List.forall_mem_cons.mpr ⟨r_X10_tell_81, List.forall_mem_cons.mpr ⟨r_X10_tell_83, List.forall_mem_cons.mpr ⟨r_X10_tell_84, List.forall_mem_cons.mpr ⟨r_X10_tell_87, List.forall_mem_cons.mpr ⟨r_X10_tell_90, List.forall_mem_cons.mpr ⟨r_X10_tell_91, List.forall_mem_cons.mpr ⟨r_X10_tell_94, List.forall_mem_cons.mpr ⟨r_X10_tell_96, List.forall_mem_cons.mpr ⟨r_X10_tell_99, List.forall_mem_cons.mpr ⟨r_X10_tell_102, fun _ h => absurd h List.not_mem_nil⟩⟩⟩⟩⟩⟩⟩⟩⟩⟩⟩⟩⟩⟩⟩⟩⟩⟩⟩⟩⟩⟩⟩⟩⟩⟩⟩⟩⟩⟩⟩⟩⟩⟩⟩⟩⟩⟩⟩⟩
set_option maxRecDepth 100000 in
theorem tq_X10_tell_0 : tf_X10_tell_0 = tl_X10_tell_0.map (fun q => (q.1, stepOf NPf md_X10_tell q.2)) := rfl
set_option maxRecDepth 100000 in
theorem ok_X10_tell_1 : ∀ q ∈ tl_X10_tell_1, IOK WB AD SR FW TB md_X10_tell q.1 q.2 := List.forall_mem_cons.mpr ⟨r_X10_tell_103, List.forall_mem_cons.mpr ⟨r_X10_tell_104, List.forall_mem_cons.mpr ⟨r_X10_tell_105, List.forall_mem_cons.mpr ⟨r_X10_tell_106, List.forall_mem_cons.mpr ⟨r_X10_tell_108, List.forall_mem_cons.mpr ⟨r_X10_tell_111, List.forall_mem_cons.mpr ⟨r_X10_tell_114, List.forall_mem_cons.mpr ⟨r_X10_tell_116, List.forall_mem_cons.mpr ⟨r_X10_tell_130, List.forall_mem_cons.mpr ⟨r_X10_tell_131, List.forall_mem_cons.mpr ⟨r_X10_tell_149, List.forall_mem_cons.mpr ⟨r_X10_tell_150, List.forall_mem_cons.mpr ⟨r_X10_tell_153, List.forall_mem_cons.mpr ⟨r_X10_tell_156, List.forall_mem_cons.mpr ⟨r_X10_tell_158, List.forall_mem_cons.mpr ⟨r_X10_tell_172, List.forall_mem_cons.mpr ⟨r_X10_tell_173, List.forall_mem_cons.mpr ⟨r_X10_tell_189, List.forall_mem_cons.mpr ⟨r_X10_tell_190, List.forall_mem_cons.mpr ⟨r_X10_tell_193, List.forall_mem_cons.mpr ⟨r_X10_tell_196, List.forall_mem_cons.mpr ⟨r_X10_tell_198, List.forall_mem_cons.mpr ⟨r_X10_tell_199, List.forall_mem_cons.mpr ⟨r_X10_tell_201, List.forall_mem_cons.mpr ⟨r_X10_tell_203, List.forall_mem_cons.mpr ⟨r_X10_tell_204, List.forall_mem_cons.mpr ⟨r_X10_tell_207, List.forall_mem_cons.mpr ⟨r_X10_tell_208, List.forall_mem_cons.mpr ⟨r_X10_tell_211, List.forall_mem_cons.mpr ⟨r_X10_tell_213, List.forall_mem_cons.mpr ⟨r_X10_tell_215, List.forall_mem_cons.mpr ⟨r_X10_tell_216, List.forall_mem_cons.mpr ⟨r_X10_tell_219, List.forall_mem_cons.mpr ⟨r_X10_tell_220, List.forall_mem_cons.mpr ⟨r_X10_tell_223, List.forall_mem_cons.mpr ⟨r_X10_tell_225, List.forall_mem_cons.mpr ⟨r_X10_tell_227, List.forall_mem_cons.mpr ⟨r_X10_tell_230, List.forall_mem_cons.mpr ⟨r_X10_tell_233, List.forall_mem_cons.mpr ⟨r_X10_tell_236, fun _ h => absurd h List.not_mem_nil⟩⟩⟩⟩⟩⟩⟩⟩⟩⟩⟩⟩⟩⟩⟩⟩⟩⟩⟩⟩⟩⟩⟩⟩⟩⟩⟩⟩⟩⟩⟩⟩⟩⟩⟩⟩⟩⟩⟩⟩
set_option maxRecDepth 100000 in
theorem tq_X10_tell_1 : tf_X10_tell_1 = tl_X10_tell_1.map (fun q => (q.1, stepOf NPf md_X10_tell q.2)) := rfl
set_option maxRecDepth 100000 in
theorem ok_X10_tell_2 : ∀ q ∈ tl_X10_tell_2, IOK WB AD SR FW TB md_X10_tell q.1 q.2 := List.forall_mem_cons.mpr ⟨r_X10_tell_239, List.forall_mem_cons.mpr ⟨r_X10_tell_240, List.forall_mem_cons.mpr ⟨r_X10_tell_242, List.forall_mem_cons.mpr ⟨r_X10_tell_245, List.forall_mem_cons.mpr ⟨r_X10_tell_246, List.forall_mem_cons.mpr ⟨r_X10_tell_249, List.forall_mem_cons.mpr ⟨r_X10_tell_250, List.forall_mem_cons.mpr ⟨r_X10_tell_251, List.forall_mem_cons.mpr ⟨r_X10_tell_254, fun _ h => absurd h List.not_mem_nil⟩⟩⟩⟩⟩⟩⟩⟩⟩
set_option maxRecDepth 100000 in
theorem tq_X10_tell_2 : tf_X10_tell_2 = tl_X10_tell_2.map (fun q => (q.1, stepOf NPf md_X10_tell q.2)) := rfl
theorem ro_X10_tell : RowsOK (md_X10_tell, tl_X10_tell) tf_X10_tell := rows_app ⟨tq_X10_tell_0, ok_X10_tell_0⟩ (rows_app ⟨tq_X10_tell_1, ok_X10_tell_1⟩ (⟨tq_X10_tell_2, ok_X10_tell_2⟩))
theorem r_X8_store_0 : IOK WB AD SR FW TB md_X8_store 0 (.aload_n 0, 0, 0, 0, []) := io_plain (by decide +kernel) rfl
theorem r_X8_store_1 : IOK WB AD SR FW TB md_X8_store 1 (.getfield 9, 8, 1, 2, []) := io_get (by decide +kernel) fo_RX8_9
theorem r_X8_store_4 : IOK WB AD SR FW TB md_X8_store 4 (.iload_n 1, 0, 0, 0, []) := io_plain (by decide +kernel) rfl
theorem r_X8_store_5 : IOK WB AD SR FW TB md_X8_store 5 (.aload_n 0, 0, 0, 0, []) := io_plain (by decide +kernel) rfl
theorem r_X8_store_6 : IOK WB AD SR FW TB md_X8_store 6 (.getfield 9, 8, 1, 2, []) := io_get (by decide +kernel) fo_RX8_9
theorem r_X8_store_9 : IOK WB AD SR FW TB md_X8_store 9 (.iload_n 2, 0, 0, 0, []) := io_plain (by decide +kernel) rfl
theorem r_X8_store_10 : IOK WB AD SR FW TB md_X8_store 10 (.aload_n 0, 0, 0, 0, []) := io_plain (by decide +kernel) rfl
theorem r_X8_store_11 : IOK WB AD SR FW TB md_X8_store 11 (.iload_n 1, 0, 0, 0, []) := io_plain (by decide +kernel) rfl
theorem r_X8_store_12 : IOK WB AD SR FW TB md_X8_store 12 (.invokevirtual 57, 2, 8, 0, []) := io_virt (by decide +kernel) tb_X8_end (Or.inl (wb_3 191 rfl rfl)) in_X8_end se_X8_end ⟨_, rfl, rfl⟩ pr_X8_end (by decide)
theorem r_X8_store_15 : IOK WB AD SR FW TB md_X8_store 15 (.iload_n 1, 0, 0, 0, []) := io_plain (by decide +kernel) rfl
theorem r_X8_store_16 : IOK WB AD SR FW TB md_X8_store 16 (.isub, 0, 0, 0, []) := io_plain (by decide +kernel) rfl
theorem r_X8_store_17 : IOK WB AD SR FW TB md_X8_store 17 (.invokestatic 61, 1000, 0, 0, []) := io_copy (by decide +kernel) (wb_3 195 rfl rfl) cp_1 cp_2 cp_3
theorem r_X8_store_20 : IOK WB AD SR FW TB md_X8_store 20 (.return_, 0, 0, 0, []) := io_void (by decide +kernel) rfl
set_option maxRecDepth 100000 in
theorem ok_X8_store_0 : ∀ q ∈ tl_X8_store, IOK WB AD SR FW TB md_X8_store q.1 q.2 := List.forall_mem_cons.mpr ⟨r_X8_store_0, List.forall_mem_cons.mpr ⟨r_X8_store_1, List.forall_mem_cons.mpr ⟨r_X8_store_4, List.forall_mem_cons.mpr ⟨r_X8_store_5, List.forall_mem_cons.mpr ⟨r_X8_store_6, List.forall_mem_cons.mpr ⟨r_X8_store_9, List.forall_mem_cons.mpr ⟨r_X8_store_10, List.forall_mem_cons.mpr ⟨r_X8_store_11, List.forall_mem_cons.mpr ⟨r_X8_store_12, List.forall_mem_cons.mpr ⟨r_X8_store_15, List.forall_mem_cons.mpr ⟨r_X8_store_16, List.forall_mem_cons.mpr ⟨r_X8_store_17, List.forall_mem_cons.mpr ⟨r_X8_store_20, fun _ h => absurd h List.not_mem_nil⟩⟩⟩⟩⟩⟩⟩⟩⟩⟩⟩⟩⟩
set_option maxRecDepth 100000 in
theorem tq_X8_store_0 : tf_X8_store = tl_X8_store.map (fun q => (q.1, stepOf NPf md_X8_store q.2)) := rfl
theorem ro_X8_store : RowsOK (md_X8_store, tl_X8_store) tf_X8_store := ⟨tq_X8_store_0, ok_X8_store_0⟩
theorem r_X10_push_0 : IOK WB AD SR FW TB md_X10_push 0 (.aload_n 0, 0, 0, 0, []) := io_plain (by decide +kernel) rfl
theorem r_X10_push_1 : IOK WB AD SR FW TB md_X10_push 1 (.getfield 21, 10, 1, 2, []) := io_get (by decide +kernel) fo_RX10_21
theorem r_X10_push_4 : IOK WB AD SR FW TB md_X10_push 4 (.iload_n 1, 0, 0, 0, []) := io_plain (by decide +kernel) rfl
theorem r_X10_push_5 : IOK WB AD SR FW TB md_X10_push 5 (.aload_n 0, 0, 0, 0, []) := io_plain (by decide +kernel) rfl
theorem r_X10_push_6 : IOK WB AD SR FW TB md_X10_push 6 (.getfield 160, 10, 8, 0, []) := io_get (by decide +kernel) fo_RX10_160
theorem r_X10_push_9 : IOK WB AD SR FW TB md_X10_push 9 (.invokestatic 176, 17, 10, 0, []) := io_stat (by decide +kernel) tb_X10_stackAt (Or.inl (wb_3 184 rfl rfl)) st_X10_stackAt pr_X10_stackAt
theorem r_X10_push_12 : IOK WB AD SR FW TB md_X10_push 12 (.invokevirtual 193, 14, 8, 0, []) := io_virt (by decide +kernel) tb_X8_store (Or.inl (wb_3 187 rfl rfl)) in_X8_store se_X8_store ⟨_, rfl, rfl⟩ pr_X8_store (by decide)
theorem r_X10_push_15 : IOK WB AD SR FW TB md_X10_push 15 (.aload_n 0, 0, 0, 0, []) := io_plain (by decide +kernel) rfl
theorem r_X10_push_16 : IOK WB AD SR FW TB md_X10_push 16 (.dup, 0, 0, 0, []) := io_plain (by decide +kernel) rfl
theorem r_X10_push_17 : IOK WB AD SR FW TB md_X10_push 17 (.getfield 160, 10, 8, 0, []) := io_get (by decide +kernel) fo_RX10_160
theorem r_X10_push_20 : IOK WB AD SR FW TB md_X10_push 20 (.iconst 1, 0, 0, 0, []) := io_plain (by decide +kernel) rfl
theorem r_X10_push_21 : IOK WB AD SR FW TB md_X10_push 21 (.iadd, 0, 0, 0, []) := io_plain (by decide +kernel) rfl
theorem r_X10_push_22 : IOK WB AD SR FW TB md_X10_push 22 (.putfield 160, 10, 8, 0, []) := io_put (by decide +kernel) fo_RX10_160 po_RX10_0_10_8_0
theorem r_X10_push_25 : IOK WB AD SR FW TB md_X10_push 25 (.aload_n 0, 0, 0, 0, []) := io_plain (by decide +kernel) rfl
theorem r_X10_push_26 : IOK WB AD SR FW TB md_X10_push 26 (.getfield 160, 10, 8, 0, []) := io_get (by decide +kernel) fo_RX10_160
theorem r_X10_push_29 : IOK WB AD SR FW TB md_X10_push 29 (.ireturn, 0, 0, 0, []) := io_plain (by decide +kernel) rfl
set_option maxRecDepth 100000 in
theorem ok_X10_push_0 : ∀ q ∈ tl_X10_push, IOK WB AD SR FW TB md_X10_push q.1 q.2 := List.forall_mem_cons.mpr ⟨r_X10_push_0, List.forall_mem_cons.mpr ⟨r_X10_push_1, List.forall_mem_cons.mpr ⟨r_X10_push_4, List.forall_mem_cons.mpr ⟨r_X10_push_5, List.forall_mem_cons.mpr ⟨r_X10_push_6, List.forall_mem_cons.mpr ⟨r_X10_push_9, List.forall_mem_cons.mpr ⟨r_X10_push_12, List.forall_mem_cons.mpr ⟨r_X10_push_15, List.forall_mem_cons.mpr ⟨r_X10_push_16, List.forall_mem_cons.mpr ⟨r_X10_push_17, List.forall_mem_cons.mpr ⟨r_X10_push_20, List.forall_mem_cons.mpr ⟨r_X10_push_21, List.forall_mem_cons.mpr ⟨r_X10_push_22, List.forall_mem_cons.mpr ⟨r_X10_push_25, List.forall_mem_cons.mpr ⟨r_X10_push_26, List.forall_mem_cons.mpr ⟨r_X10_push_29, fun _ h => absurd h List.not_mem_nil⟩⟩⟩⟩⟩⟩⟩⟩⟩⟩⟩⟩⟩⟩⟩⟩
set_option maxRecDepth 100000 in
theorem tq_X10_push_0 : tf_X10_push = tl_X10_push.map (fun q => (q.1, stepOf NPf md_X10_push q.2)) := rfl
theorem ro_X10_push : RowsOK (md_X10_push, tl_X10_push) tf_X10_push := ⟨tq_X10_push_0, ok_X10_push_0⟩
theorem r_X7_hasOperator_0 : IOK WB AD SR FW TB md_X7_hasOperator 0 (.iload_n 1, 0, 0, 0, []) := io_plain (by decide +kernel) rfl
theorem r_X7_hasOperator_1 : IOK WB AD SR FW TB md_X7_hasOperator 1 (.ifCond .lt 15, 0, 0, 0, []) := io_plain (by decide +kernel) rfl
theorem r_X7_hasOperator_4 : IOK WB AD SR FW TB md_X7_hasOperator 4 (.iload_n 1, 0, 0, 0, []) := io_plain (by decide +kernel) rfl
theorem r_X7_hasOperator_5 : IOK WB AD SR FW TB md_X7_hasOperator 5 (.aload_n 0, 0, 0, 0, []) := io_plain (by decide +kernel) rfl
theorem r_X7_hasOperator_6 : IOK WB AD SR FW TB md_X7_hasOperator 6 (.getfield 49, 7, 1, 0, []) := io_get (by decide +kernel) fo_RX7_49
theorem r_X7_hasOperator_9 : IOK WB AD SR FW TB md_X7_hasOperator 9 (.if_icmp .ge 7, 0, 0, 0, []) := io_plain (by decide +kernel) rfl
theorem r_X7_hasOperator_12 : IOK WB AD SR FW TB md_X7_hasOperator 12 (.iconst 1, 0, 0, 0, []) := io_plain (by decide +kernel) rfl
theorem r_X7_hasOperator_13 : IOK WB AD SR FW TB md_X7_hasOperator 13 (.goto 4, 0, 0, 0, []) := io_plain (by decide +kernel) rfl
theorem r_X7_hasOperator_17 : IOK WB AD SR FW TB md_X7_hasOperator 17 (.ireturn, 0, 0, 0, []) := io_plain (by decide +kernel) rfl
set_option maxRecDepth 100000 in
theorem ok_X7_hasOperator_0 : ∀ q ∈ tl_X7_hasOperator, IOK WB AD SR FW TB md_X7_hasOperator q.1 q.2 := List.forall_mem_cons.mpr ⟨r_X7_hasOperator_0, List.forall_mem_cons.mpr ⟨r_X7_hasOperator_1, List.forall_mem_cons.mpr ⟨r_X7_hasOperator_4, List.forall_mem_cons.mpr ⟨r_X7_hasOperator_5, List.forall_mem_cons.mpr ⟨r_X7_hasOperator_6, List.forall_mem_cons.mpr ⟨r_X7_hasOperator_9, List.forall_mem_cons.mpr ⟨r_X7_hasOperator_12, List.forall_mem_cons.mpr ⟨r_X7_hasOperator_13, List.forall_mem_cons.mpr ⟨r_X7_hasOperator_17, fun _ h => absurd h List.not_mem_nil⟩⟩⟩⟩⟩⟩⟩⟩⟩
set_option maxRecDepth 100000 in
theorem tq_X7_hasOperator_0 : tf_X7_hasOperator = tl_X7_hasOperator.map (fun q => (q.1, stepOf NPf md_X7_hasOperator q.2)) := rfl
theorem ro_X7_hasOperator : RowsOK (md_X7_hasOperator, tl_X7_hasOperator) tf_X7_hasOperator := ⟨tq_X7_hasOperator_0, ok_X7_hasOperator_0⟩
theorem r_X10_stackAt_0 : IOK WB AD SR FW TB md_X10_stackAt 0 (.bipush 20, 0, 0, 0, []) := io_plain (by decide +kernel) rfl
theorem r_X10_stackAt_2 : IOK WB AD SR FW TB md_X10_stackAt 2 (.iload_n 0, 0, 0, 0, []) := io_plain (by decide +kernel) rfl
theorem r_X10_stackAt_3 : IOK WB AD SR FW TB md_X10_stackAt 3 (.bipush 20, 0, 0, 0, []) := io_plain (by decide +kernel) rfl
theorem r_X10_stackAt_5 : IOK WB AD SR FW TB md_X10_stackAt 5 (.imul, 0, 0, 0, []) := io_plain (by decide +kernel) rfl
theorem r_X10_stackAt_6 : IOK WB AD SR FW TB md_X10_stackAt 6 (.iadd, 0, 0, 0, []) := io_plain (by decide +kernel) rfl
theorem r_X10_stackAt_7 : IOK WB AD SR FW TB md_X10_stackAt 7 (.ireturn, 0, 0, 0, []) := io_plain (by decide +kernel) rfl
set_option maxRecDepth 100000 in
theorem ok_X10_stackAt_0 : ∀ q ∈ tl_X10_stackAt, IOK WB AD SR FW TB md_X10_stackAt q.1 q.2 := List.forall_mem_cons.mpr ⟨r_X10_stackAt_0, List.forall_mem_cons.mpr ⟨r_X10_stackAt_2, List.forall_mem_cons.mpr ⟨r_X10_stackAt_3, List.forall_mem_cons.mpr ⟨r_X10_stackAt_5, List.forall_mem_cons.mpr ⟨r_X10_stackAt_6, List.forall_mem_cons.mpr ⟨r_X10_stackAt_7, fun _ h => absurd h List.not_mem_nil⟩⟩⟩⟩⟩⟩
set_option maxRecDepth 100000 in
theorem tq_X10_stackAt_0 : tf_X10_stackAt = tl_X10_stackAt.map (fun q => (q.1, stepOf NPf md_X10_stackAt q.2)) := rfl
theorem ro_X10_stackAt : RowsOK (md_X10_stackAt, tl_X10_stackAt) tf_X10_stackAt := ⟨tq_X10_stackAt_0, ok_X10_stackAt_0⟩
theorem r_X7_init_0 : IOK WB AD SR FW TB md_X7_init 0 (.aload_n 0, 0, 0, 0, []) := io_plain (by decide +kernel) rfl
theorem r_X7_init_1 : IOK WB AD SR FW TB md_X7_init 1 (.invokespecial 3, 1000, 0, 0, []) := io_obj (by decide +kernel) (wb_1 34 rfl rfl) ob_1 ob_2
theorem r_X7_init_4 : IOK WB AD SR FW TB md_X7_init 4 (.aload_n 0, 0, 0, 0, []) := io_plain (by decide +kernel) rfl
theorem r_X7_init_5 : IOK WB AD SR FW TB md_X7_init 5 (.bipush 9, 0, 0, 0, []) := io_plain (by decide +kernel) rfl
theorem r_X7_init_7 : IOK WB AD SR FW TB md_X7_init 7 (.newarray .int, 0, 0, 0, []) := io_newa (by decide +kernel) (Or.inl ⟨rfl, rfl⟩) ac_int
theorem r_X7_init_9 : IOK WB AD SR FW TB md_X7_init 9 (.putfield 9, 7, 2, 2, []) := io_put (by decide +kernel) fo_RX7_9 po_RX7_1_7_2_2
theorem r_X7_init_12 : IOK WB AD SR FW TB md_X7_init 12 (.aload_n 0, 0, 0, 0, []) := io_plain (by decide +kernel) rfl
theorem r_X7_init_13 : IOK WB AD SR FW TB md_X7_init 13 (.bipush 10, 0, 0, 0, []) := io_plain (by decide +kernel) rfl
theorem r_X7_init_15 : IOK WB AD SR FW TB md_X7_init 15 (.newarray .int, 0, 0, 0, []) := io_newa (by decide +kernel) (Or.inl ⟨rfl, rfl⟩) ac_int
theorem r_X7_init_17 : IOK WB AD SR FW TB md_X7_init 17 (.putfield 15, 7, 3, 2, []) := io_put (by decide +kernel) fo_RX7_15 po_RX7_1_7_3_2
theorem r_X7_init_20 : IOK WB AD SR FW TB md_X7_init 20 (.aload_n 0, 0, 0, 0, []) := io_plain (by decide +kernel) rfl
theorem r_X7_init_21 : IOK WB AD SR FW TB md_X7_init 21 (.bipush 16, 0, 0, 0, []) := io_plain (by decide +kernel) rfl
theorem r_X7_init_23 : IOK WB AD SR FW TB md_X7_init 23 (.newarray .int, 0, 0, 0, []) := io_newa (by decide +kernel) (Or.inl ⟨rfl, rfl⟩) ac_int
theorem r_X7_init_25 : IOK WB AD SR FW TB md_X7_init 25 (.putfield 18, 7, 4, 2, []) := io_put (by decide +kernel) fo_RX7_18 po_RX7_1_7_4_2
theorem r_X7_init_28 : IOK WB AD SR FW TB md_X7_init 28 (.aload_n 0, 0, 0, 0, []) := io_plain (by decide +kernel) rfl
theorem r_X7_init_29 : IOK WB AD SR FW TB md_X7_init 29 (.bipush 16, 0, 0, 0, []) := io_plain (by decide +kernel) rfl
theorem r_X7_init_31 : IOK WB AD SR FW TB md_X7_init 31 (.newarray .int, 0, 0, 0, []) := io_newa (by decide +kernel) (Or.inl ⟨rfl, rfl⟩) ac_int
theorem r_X7_init_33 : IOK WB AD SR FW TB md_X7_init 33 (.putfield 21, 7, 5, 2, []) := io_put (by decide +kernel) fo_RX7_21 po_RX7_1_7_5_2
theorem r_X7_init_36 : IOK WB AD SR FW TB md_X7_init 36 (.aload_n 0, 0, 0, 0, []) := io_plain (by decide +kernel) rfl
theorem r_X7_init_37 : IOK WB AD SR FW TB md_X7_init 37 (.bipush 16, 0, 0, 0, []) := io_plain (by decide +kernel) rfl
theorem r_X7_init_39 : IOK WB AD SR FW TB md_X7_init 39 (.newarray .int, 0, 0, 0, []) := io_newa (by decide +kernel) (Or.inl ⟨rfl, rfl⟩) ac_int
theorem r_X7_init_41 : IOK WB AD SR FW TB md_X7_init 41 (.putfield 24, 7, 6, 2, []) := io_put (by decide +kernel) fo_RX7_24 po_RX7_1_7_6_2
theorem r_X7_init_44 : IOK WB AD SR FW TB md_X7_init 44 (.aload_n 0, 0, 0, 0, []) := io_plain (by decide +kernel) rfl
theorem r_X7_init_45 : IOK WB AD SR FW TB md_X7_init 45 (.bipush 16, 0, 0, 0, []) := io_plain (by decide +kernel) rfl
theorem r_X7_init_47 : IOK WB AD SR FW TB md_X7_init 47 (.newarray .int, 0, 0, 0, []) := io_newa (by decide +kernel) (Or.inl ⟨rfl, rfl⟩) ac_int
theorem r_X7_init_49 : IOK WB AD SR FW TB md_X7_init 49 (.putfield 27, 7, 7, 2, []) := io_put (by decide +kernel) fo_RX7_27 po_RX7_1_7_7_2
theorem r_X7_init_52 : IOK WB AD SR FW TB md_X7_init 52 (.aload_n 0, 0, 0, 0, []) := io_plain (by decide +kernel) rfl
theorem r_X7_init_53 : IOK WB AD SR FW TB md_X7_init 53 (.sipush 192, 0, 0, 0, []) := io_plain (by decide +kernel) rfl
theorem r_X7_init_56 : IOK WB AD SR FW TB md_X7_init 56 (.newarray .int, 0, 0, 0, []) := io_newa (by decide +kernel) (Or.inl ⟨rfl, rfl⟩) ac_int
theorem r_X7_init_58 : IOK WB AD SR FW TB md_X7_init 58 (.putfield 30, 7, 8, 2, []) := io_put (by decide +kernel) fo_RX7_30 po_RX7_1_7_8_2
theorem r_X7_init_61 : IOK WB AD SR FW TB md_X7_init 61 (.aload_n 0, 0, 0, 0, []) := io_plain (by decide +kernel) rfl
theorem r_X7_init_62 : IOK WB AD SR FW TB md_X7_init 62 (.bipush 64, 0, 0, 0, []) := io_plain (by decide +kernel) rfl
theorem r_X7_init_64 : IOK WB AD SR FW TB md_X7_init 64 (.newarray .int, 0, 0, 0, []) := io_newa (by decide +kernel) (Or.inl ⟨rfl, rfl⟩) ac_int
theorem r_X7_init_66 : IOK WB AD SR FW TB md_X7_init 66 (.putfield 33, 7, 9, 2, []) := io_put (by decide +kernel) fo_RX7_33 po_RX7_1_7_9_2
theorem r_X7_init_69 : IOK WB AD SR FW TB md_X7_init 69 (.aload_n 0, 0, 0, 0, []) := io_plain (by decide +kernel) rfl
theorem r_X7_init_70 : IOK WB AD SR FW TB md_X7_init 70 (.bipush 16, 0, 0, 0, []) := io_plain (by decide +kernel) rfl
theorem r_X7_init_72 : IOK WB AD SR FW TB md_X7_init 72 (.newarray .int, 0, 0, 0, []) := io_newa (by decide +kernel) (Or.inl ⟨rfl, rfl⟩) ac_int
theorem r_X7_init_74 : IOK WB AD SR FW TB md_X7_init 74 (.putfield 36, 7, 10, 2, []) := io_put (by decide +kernel) fo_RX7_36 po_RX7_1_7_10_2
theorem r_X7_init_77 : IOK WB AD SR FW TB md_X7_init 77 (.iconst 0, 0, 0, 0, []) := io_plain (by decide +kernel) rfl
theorem r_X7_init_78 : IOK WB AD SR FW TB md_X7_init 78 (.istore_n 1, 0, 0, 0, []) := io_plain (by decide +kernel) rfl
theorem r_X7_init_79 : IOK WB AD SR FW TB md_X7_init 79 (.iload_n 1, 0, 0, 0, []) := io_plain (by decide +kernel) rfl
theorem r_X7_init_80 : IOK WB AD SR FW TB md_X7_init 80 (.bipush 8, 0, 0, 0, []) := io_plain (by decide +kernel) rfl
theorem r_X7_init_82 : IOK WB AD SR FW TB md_X7_init 82 (.if_icmp .ge 20, 0, 0, 0, []) := io_plain (by decide +kernel) rfl
theorem r_X7_init_85 : IOK WB AD SR FW TB md_X7_init 85 (.aload_n 0, 0, 0, 0, []) := io_plain (by decide +kernel) rfl
theorem r_X7_init_86 : IOK WB AD SR FW TB md_X7_init 86 (.getfield 9, 7, 2, 2, []) := io_get (by decide +kernel) fo_RX7_9
theorem r_X7_init_89 : IOK WB AD SR FW TB md_X7_init 89 (.iload_n 1, 0, 0, 0, []) := io_plain (by decide +kernel) rfl
theorem r_X7_init_90 : IOK WB AD SR FW TB md_X7_init 90 (.iconst 1, 0, 0, 0, []) := io_plain (by decide +kernel) rfl
theorem r_X7_init_91 : IOK WB AD SR FW TB md_X7_init 91 (.iadd, 0, 0, 0, []) := io_plain (by decide +kernel) rfl
theorem r_X7_init_92 : IOK WB AD SR FW TB md_X7_init 92 (.iconst 1, 0, 0, 0, []) := io_plain (by decide +kernel) rfl
theorem r_X7_init_93 : IOK WB AD SR FW TB md_X7_init 93 (.iload_n 1, 0, 0, 0, []) := io_plain (by decide +kernel) rfl
theorem r_X7_init_94 : IOK WB AD SR FW TB md_X7_init 94 (.ishl, 0, 0, 0, []) := io_plain (by decide +kernel) rfl
theorem r_X7_init_95 : IOK WB AD SR FW TB md_X7_init 95 (.iastore, 0, 0, 0, []) := io_plain (by decide +kernel) rfl
theorem r_X7_init_96 : IOK WB AD SR FW TB md_X7_init 96 (.iinc 1 1, 0, 0, 0, []) := io_plain (by decide +kernel) rfl
theorem r_X7_init_99 : IOK WB AD SR FW TB md_X7_init 99 (.goto (-20), 0, 0, 0, []) := io_plain (by decide +kernel) rfl
theorem r_X7_init_102 : IOK WB AD SR FW TB md_X7_init 102 (.aload_n 0, 0, 0, 0, []) := io_plain (by decide +kernel) rfl
theorem r_X7_init_103 : IOK WB AD SR FW TB md_X7_init 103 (.getfield 33, 7, 9, 2, []) := io_get (by decide +kernel) fo_RX7_33
theorem r_X7_init_106 : IOK WB AD SR FW TB md_X7_init 106 (.iconst 1, 0, 0, 0, []) := io_plain (by decide +kernel) rfl
theorem r_X7_init_107 : IOK WB AD SR FW TB md_X7_init 107 (.invokestatic 39, 1, 0, 0, []) := io_stat (by decide +kernel) tb_J7_fill_53178 (Or.inl (wb_1 35 rfl rfl)) st_J7_fill_53178 pr_J7_fill_53178
theorem r_X7_init_110 : IOK WB AD SR FW TB md_X7_init 110 (.return_, 0, 0, 0, []) := io_void (by decide +kernel) rfl
set_option maxRecDepth 100000 in
theorem ok_X7_init_0 : ∀ q ∈ tl_X7_init_0, IOK WB AD SR FW TB md_X7_init q.1 q.2 := List.forall_mem_cons.mpr ⟨r_X7_init_0, List.forall_mem_cons.mpr ⟨r_X7_init_1, List.forall_mem_cons.mpr ⟨r_X7_init_4, List.forall_mem_cons.mpr ⟨r_X7_init_5, List.forall_mem_cons.mpr ⟨r_X7_init_7, List.forall_mem_cons.mpr ⟨r_X7_init_9, List.forall_mem_cons.mpr ⟨r_X7_init_12, List.forall_mem_cons.mpr ⟨r_X7_init_13, List.forall_mem_cons.mpr ⟨r_X7_init_15, List.forall_mem_cons.mpr ⟨r_X7_init_17, List.forall_mem_cons.mpr ⟨r_X7_init_20, List.forall_mem_cons.mpr ⟨r_X7_init_21, List.forall_mem_cons.mpr ⟨r_X7_init_23, List.forall_mem_cons.mpr ⟨r_X7_init_25, List.forall_mem_cons.mpr ⟨r_X7_init_28, List.forall_mem_cons.mpr ⟨r_X7_init_29, List.forall_mem_cons.mpr ⟨r_X7_init_31, List.forall_mem_cons.mpr ⟨r_X7_init_33, List.forall_mem_cons.mpr ⟨r_X7_init_36, List.forall_mem_cons.mpr ⟨r_X7_init_37, List.forall_mem_cons.mpr ⟨r_X7_init_39, List.forall_mem_cons.mpr ⟨r_X7_init_41, List.forall_mem_cons.mpr ⟨r_X7_init_44, List.forall_mem_cons.mpr ⟨r_X7_init_45, List.forall_mem_cons.mpr ⟨r_X7_init_47, List.forall_mem_cons.mpr ⟨r_X7_init_49, List.forall_mem_cons.mpr ⟨r_X7_init_52, List.forall_mem_cons.mpr ⟨r_X7_init_53, List.forall_mem_cons.mpr ⟨r_X7_init_56, List.forall_mem_cons.mpr ⟨r_X7_init_58, List.forall_mem_cons.mpr ⟨r_X7_init_61, List.forall_mem_cons.mpr ⟨r_X7_init_62, List.forall_mem_cons.mpr ⟨r_X7_init_64, List.forall_mem_cons.mpr ⟨r_X7_init_66, List.forall_mem_cons.mpr ⟨r_X7_init_69, List.forall_mem_cons.mpr ⟨r_X7_init_70, List.forall_mem_cons.mpr ⟨r_X7_init_72, List.forall_mem_cons.mpr ⟨r_X7_init_74, List.forall_mem_cons.mpr ⟨r_X7_init_77, List.forall_mem_cons.mpr ⟨r_X7_init_78, fun _ h => absurd h List.not_mem_nil⟩⟩⟩⟩⟩⟩⟩⟩⟩⟩⟩⟩⟩⟩⟩⟩⟩⟩⟩⟩⟩⟩⟩⟩⟩⟩⟩⟩⟩⟩⟩⟩⟩⟩⟩⟩⟩⟩⟩⟩
set_option maxRecDepth 100000 in
theorem tq_X7_init_0 : tf_X7_init_0 = tl_X7_init_0.map (fun q => (q.1, stepOf NPf md_X7_init q.2)) := rfl
set_option maxRecDepth 100000 in
theorem ok_X7_init_1 : ∀ q ∈ tl_X7_init_1, IOK WB AD SR FW TB md_X7_init q.1 q.2 := List.forall_mem_cons.mpr ⟨r_X7_init_79, List.forall_mem_cons.mpr ⟨r_X7_init_80, List.forall_mem_cons.mpr ⟨r_X7_init_82, List.forall_mem_cons.mpr ⟨r_X7_init_85, List.forall_mem_cons.mpr ⟨r_X7_init_86, List.forall_mem_cons.mpr ⟨r_X7_init_89, List.forall_mem_cons.mpr ⟨r_X7_init_90, List.forall_mem_cons.mpr ⟨r_X7_init_91, List.forall_mem_cons.mpr ⟨r_X7_init_92, List.forall_mem_cons.mpr ⟨r_X7_init_93, List.forall_mem_cons.mpr ⟨r_X7_init_94, List.forall_mem_cons.mpr ⟨r_X7_init_95, List.forall_mem_cons.mpr ⟨r_X7_init_96, List.forall_mem_cons.mpr ⟨r_X7_init_99, List.forall_mem_cons.mpr ⟨r_X7_init_102, List.forall_mem_cons.mpr ⟨r_X7_init_103, List.forall_mem_cons.mpr ⟨r_X7_init_106, List.forall_mem_cons.mpr ⟨r_X7_init_107, List.forall_mem_cons.mpr ⟨r_X7_init_110, fun _ h => absurd h List.not_mem_nil⟩⟩⟩⟩⟩⟩⟩⟩⟩⟩⟩⟩⟩⟩⟩⟩⟩⟩⟩
set_option maxRecDepth 100000 in
theorem tq_X7_init_1 : tf_X7_init_1 = tl_X7_init_1.map (fun q => (q.1, stepOf NPf md_X7_init q.2)) := rfl
theorem ro_X7_init : RowsOK (md_X7_init, tl_X7_init) tf_X7_init := rows_app ⟨tq_X7_init_0, ok_X7_init_0⟩ (⟨tq_X7_init_1, ok_X7_init_1⟩)
theorem r_X8_await_0 : IOK WB AD SR FW TB md_X8_await 0 (.aload_n 0, 0, 0, 0, []) := io_plain (by decide +kernel) rfl
theorem r_X8_await_1 : IOK WB AD SR FW TB md_X8_await 1 (.getfield 41, 8, 4, 0, []) := io_get (by decide +kernel) fo_RX8_41
theorem r_X8_await_4 : IOK WB AD SR FW TB md_X8_await 4 (.sipush 1280, 0, 0, 0, []) := io_plain (by decide +kernel) rfl
theorem r_X8_await_7 : IOK WB AD SR FW TB md_X8_await 7 (.if_icmp .ge 23, 0, 0, 0, []) := io_plain (by decide +kernel) rfl
theorem r_X8_await_10 : IOK WB AD SR FW TB md_X8_await 10 (.aload_n 0, 0, 0, 0, []) := io_plain (by decide +kernel) rfl
theorem r_X8_await_11 : IOK WB AD SR FW TB md_X8_await 11 (.getfield 19, 8, 3, 2, []) := io_get (by decide +kernel) fo_RX8_19
theorem r_X8_await_14 : IOK WB AD SR FW TB md_X8_await 14 (.aload_n 0, 0, 0, 0, []) := io_plain (by decide +kernel) rfl
theorem r_X8_await_15 : IOK WB AD SR FW TB md_X8_await 15 (.getfield 41, 8, 4, 0, []) := io_get (by decide +kernel) fo_RX8_41
theorem r_X8_await_18 : IOK WB AD SR FW TB md_X8_await 18 (.iload_n 1, 0, 0, 0, []) := io_plain (by decide +kernel) rfl
theorem r_X8_await_19 : IOK WB AD SR FW TB md_X8_await 19 (.iastore, 0, 0, 0, []) := io_plain (by decide +kernel) rfl
theorem r_X8_await_20 : IOK WB AD SR FW TB md_X8_await 20 (.aload_n 0, 0, 0, 0, []) := io_plain (by decide +kernel) rfl
theorem r_X8_await_21 : IOK WB AD SR FW TB md_X8_await 21 (.dup, 0, 0, 0, []) := io_plain (by decide +kernel) rfl
theorem r_X8_await_22 : IOK WB AD SR FW TB md_X8_await 22 (.getfield 41, 8, 4, 0, []) := io_get (by decide +kernel) fo_RX8_41
theorem r_X8_await_25 : IOK WB AD SR FW TB md_X8_await 25 (.iconst 1, 0, 0, 0, []) := io_plain (by decide +kernel) rfl
theorem r_X8_await_26 : IOK WB AD SR FW TB md_X8_await 26 (.iadd, 0, 0, 0, []) := io_plain (by decide +kernel) rfl
theorem r_X8_await_27 : IOK WB AD SR FW TB md_X8_await 27 (.putfield 41, 8, 4, 0, []) := io_put (by decide +kernel) fo_RX8_41 po_RX8_0_8_4_0
theorem r_X8_await_30 : IOK WB AD SR FW TB md_X8_await 30 (.return_, 0, 0, 0, []) := io_void (by decide +kernel) rfl
set_option maxRecDepth 100000 in
theorem ok_X8_await_0 : ∀ q ∈ tl_X8_await, IOK WB AD SR FW TB md_X8_await q.1 q.2 := List.forall_mem_cons.mpr ⟨r_X8_await_0, List.forall_mem_cons.mpr ⟨r_X8_await_1, List.forall_mem_cons.mpr ⟨r_X8_await_4, List.forall_mem_cons.mpr ⟨r_X8_await_7, List.forall_mem_cons.mpr ⟨r_X8_await_10, List.forall_mem_cons.mpr ⟨r_X8_await_11, List.forall_mem_cons.mpr ⟨r_X8_await_14, List.forall_mem_cons.mpr ⟨r_X8_await_15, List.forall_mem_cons.mpr ⟨r_X8_await_18, List.forall_mem_cons.mpr ⟨r_X8_await_19, List.forall_mem_cons.mpr ⟨r_X8_await_20, List.forall_mem_cons.mpr ⟨r_X8_await_21, List.forall_mem_cons.mpr ⟨r_X8_await_22, List.forall_mem_cons.mpr ⟨r_X8_await_25, List.forall_mem_cons.mpr ⟨r_X8_await_26, List.forall_mem_cons.mpr ⟨r_X8_await_27, List.forall_mem_cons.mpr ⟨r_X8_await_30, fun _ h => absurd h List.not_mem_nil⟩⟩⟩⟩⟩⟩⟩⟩⟩⟩⟩⟩⟩⟩⟩⟩⟩
set_option maxRecDepth 100000 in
theorem tq_X8_await_0 : tf_X8_await = tl_X8_await.map (fun q => (q.1, stepOf NPf md_X8_await q.2)) := rfl
theorem ro_X8_await : RowsOK (md_X8_await, tl_X8_await) tf_X8_await := ⟨tq_X8_await_0, ok_X8_await_0⟩
theorem r_X2_areTold_0 : IOK WB AD SR FW TB md_X2_areTold 0 (.aload_n 0, 0, 0, 0, []) := io_plain (by decide +kernel) rfl
theorem r_X2_areTold_1 : IOK WB AD SR FW TB md_X2_areTold 1 (.getfield 26, 2, 2, 0, []) := io_get (by decide +kernel) fo_RX2_26
theorem r_X2_areTold_4 : IOK WB AD SR FW TB md_X2_areTold 4 (.aload_n 0, 0, 0, 0, []) := io_plain (by decide +kernel) rfl
theorem r_X2_areTold_5 : IOK WB AD SR FW TB md_X2_areTold 5 (.getfield 30, 2, 3, 0, []) := io_get (by decide +kernel) fo_RX2_30
theorem r_X2_areTold_8 : IOK WB AD SR FW TB md_X2_areTold 8 (.iadd, 0, 0, 0, []) := io_plain (by decide +kernel) rfl
theorem r_X2_areTold_9 : IOK WB AD SR FW TB md_X2_areTold 9 (.ifCond .le 7, 0, 0, 0, []) := io_plain (by decide +kernel) rfl
theorem r_X2_areTold_16 : IOK WB AD SR FW TB md_X2_areTold 16 (.iconst 0, 0, 0, 0, []) := io_plain (by decide +kernel) rfl
theorem r_X2_areTold_17 : IOK WB AD SR FW TB md_X2_areTold 17 (.ireturn, 0, 0, 0, []) := io_plain (by decide +kernel) rfl
set_option maxRecDepth 100000 in
theorem ok_X2_areTold_0 : ∀ q ∈ tl_X2_areTold, IOK WB AD SR FW TB md_X2_areTold q.1 q.2 := List.forall_mem_cons.mpr ⟨r_X2_areTold_0, List.forall_mem_cons.mpr ⟨r_X2_areTold_1, List.forall_mem_cons.mpr ⟨r_X2_areTold_4, List.forall_mem_cons.mpr ⟨r_X2_areTold_5, List.forall_mem_cons.mpr ⟨r_X2_areTold_8, List.forall_mem_cons.mpr ⟨r_X2_areTold_9, List.forall_mem_cons.mpr ⟨r_X2_areTold_16, List.forall_mem_cons.mpr ⟨r_X2_areTold_17, fun _ h => absurd h List.not_mem_nil⟩⟩⟩⟩⟩⟩⟩⟩
set_option maxRecDepth 100000 in
theorem tq_X2_areTold_0 : tf_X2_areTold = tl_X2_areTold.map (fun q => (q.1, stepOf NPf md_X2_areTold q.2)) := rfl
theorem ro_X2_areTold : RowsOK (md_X2_areTold, tl_X2_areTold) tf_X2_areTold := ⟨tq_X2_areTold_0, ok_X2_areTold_0⟩
theorem r_X8_startAnew_0 : IOK WB AD SR FW TB md_X8_startAnew 0 (.aload_n 0, 0, 0, 0, []) := io_plain (by decide +kernel) rfl
theorem r_X8_startAnew_1 : IOK WB AD SR FW TB md_X8_startAnew 1 (.sipush 7500, 0, 0, 0, []) := io_plain (by decide +kernel) rfl
theorem r_X8_startAnew_4 : IOK WB AD SR FW TB md_X8_startAnew 4 (.putfield 15, 8, 2, 0, []) := io_put (by decide +kernel) fo_RX8_15 po_RX8_0_8_2_0
theorem r_X8_startAnew_7 : IOK WB AD SR FW TB md_X8_startAnew 7 (.aload_n 0, 0, 0, 0, []) := io_plain (by decide +kernel) rfl
theorem r_X8_startAnew_8 : IOK WB AD SR FW TB md_X8_startAnew 8 (.iconst 0, 0, 0, 0, []) := io_plain (by decide +kernel) rfl
theorem r_X8_startAnew_9 : IOK WB AD SR FW TB md_X8_startAnew 9 (.putfield 41, 8, 4, 0, []) := io_put (by decide +kernel) fo_RX8_41 po_RX8_0_8_4_0
theorem r_X8_startAnew_12 : IOK WB AD SR FW TB md_X8_startAnew 12 (.aload_n 0, 0, 0, 0, []) := io_plain (by decide +kernel) rfl
theorem r_X8_startAnew_13 : IOK WB AD SR FW TB md_X8_startAnew 13 (.iconst (-1), 0, 0, 0, []) := io_plain (by decide +kernel) rfl
theorem r_X8_startAnew_14 : IOK WB AD SR FW TB md_X8_startAnew 14 (.putfield 31, 8, 8, 0, []) := io_put (by decide +kernel) fo_RX8_31 po_RX8_0_8_8_0
theorem r_X8_startAnew_17 : IOK WB AD SR FW TB md_X8_startAnew 17 (.aload_n 0, 0, 0, 0, []) := io_plain (by decide +kernel) rfl
theorem r_X8_startAnew_18 : IOK WB AD SR FW TB md_X8_startAnew 18 (.iconst 0, 0, 0, 0, []) := io_plain (by decide +kernel) rfl
theorem r_X8_startAnew_19 : IOK WB AD SR FW TB md_X8_startAnew 19 (.putfield 44, 8, 10, 1, []) := io_put (by decide +kernel) fo_RX8_44 po_RX8_0_8_10_1
theorem r_X8_startAnew_22 : IOK WB AD SR FW TB md_X8_startAnew 22 (.aload_n 0, 0, 0, 0, []) := io_plain (by decide +kernel) rfl
theorem r_X8_startAnew_23 : IOK WB AD SR FW TB md_X8_startAnew 23 (.invokevirtual 48, 32, 8, 0, []) := io_virt (by decide +kernel) tb_X8_giveNothing (Or.inl (wb_3 208 rfl rfl)) in_X8_giveNothing se_X8_giveNothing ⟨_, rfl, rfl⟩ pr_X8_giveNothing (by decide)
theorem r_X8_startAnew_26 : IOK WB AD SR FW TB md_X8_startAnew 26 (.return_, 0, 0, 0, []) := io_void (by decide +kernel) rfl
set_option maxRecDepth 100000 in
theorem ok_X8_startAnew_0 : ∀ q ∈ tl_X8_startAnew, IOK WB AD SR FW TB md_X8_startAnew q.1 q.2 := List.forall_mem_cons.mpr ⟨r_X8_startAnew_0, List.forall_mem_cons.mpr ⟨r_X8_startAnew_1, List.forall_mem_cons.mpr ⟨r_X8_startAnew_4, List.forall_mem_cons.mpr ⟨r_X8_startAnew_7, List.forall_mem_cons.mpr ⟨r_X8_startAnew_8, List.forall_mem_cons.mpr ⟨r_X8_startAnew_9, List.forall_mem_cons.mpr ⟨r_X8_startAnew_12, List.forall_mem_cons.mpr ⟨r_X8_startAnew_13, List.forall_mem_cons.mpr ⟨r_X8_startAnew_14, List.forall_mem_cons.mpr ⟨r_X8_startAnew_17, List.forall_mem_cons.mpr ⟨r_X8_startAnew_18, List.forall_mem_cons.mpr ⟨r_X8_startAnew_19, List.forall_mem_cons.mpr ⟨r_X8_startAnew_22, List.forall_mem_cons.mpr ⟨r_X8_startAnew_23, List.forall_mem_cons.mpr ⟨r_X8_startAnew_26, fun _ h => absurd h List.not_mem_nil⟩⟩⟩⟩⟩⟩⟩⟩⟩⟩⟩⟩⟩⟩⟩
set_option maxRecDepth 100000 in
theorem tq_X8_startAnew_0 : tf_X8_startAnew = tl_X8_startAnew.map (fun q => (q.1, stepOf NPf md_X8_startAnew q.2)) := rfl
theorem ro_X8_startAnew : RowsOK (md_X8_startAnew, tl_X8_startAnew) tf_X8_startAnew := ⟨tq_X8_startAnew_0, ok_X8_startAnew_0⟩
theorem r_J6_bitCount_0f7a4_0 : IOK WB AD SR FW TB md_J6_bitCount_0f7a4 0 (.iload_n 0, 0, 0, 0, []) := io_plain (by decide +kernel) rfl
theorem r_J6_bitCount_0f7a4_1 : IOK WB AD SR FW TB md_J6_bitCount_0f7a4 1 (.iload_n 0, 0, 0, 0, []) := io_plain (by decide +kernel) rfl
theorem r_J6_bitCount_0f7a4_2 : IOK WB AD SR FW TB md_J6_bitCount_0f7a4 2 (.iconst 1, 0, 0, 0, []) := io_plain (by decide +kernel) rfl
theorem r_J6_bitCount_0f7a4_3 : IOK WB AD SR FW TB md_J6_bitCount_0f7a4 3 (.iushr, 0, 0, 0, []) := io_plain (by decide +kernel) rfl
theorem r_J6_bitCount_0f7a4_4 : IOK WB AD SR FW TB md_J6_bitCount_0f7a4 4 (.ldc_w 265, 1431655765, 0, 0, []) := io_ldc_w (by decide +kernel) (wb_4 35 rfl rfl)
theorem r_J6_bitCount_0f7a4_7 : IOK WB AD SR FW TB md_J6_bitCount_0f7a4 7 (.iand, 0, 0, 0, []) := io_plain (by decide +kernel) rfl
theorem r_J6_bitCount_0f7a4_8 : IOK WB AD SR FW TB md_J6_bitCount_0f7a4 8 (.isub, 0, 0, 0, []) := io_plain (by decide +kernel) rfl
theorem r_J6_bitCount_0f7a4_9 : IOK WB AD SR FW TB md_J6_bitCount_0f7a4 9 (.istore_n 0, 0, 0, 0, []) := io_plain (by decide +kernel) rfl
theorem r_J6_bitCount_0f7a4_10 : IOK WB AD SR FW TB md_J6_bitCount_0f7a4 10 (.iload_n 0, 0, 0, 0, []) := io_plain (by decide +kernel) rfl
theorem r_J6_bitCount_0f7a4_11 : IOK WB AD SR FW TB md_J6_bitCount_0f7a4 11 (.ldc_w 266, 858993459, 0, 0, []) := io_ldc_w (by decide +kernel) (wb_4 36 rfl rfl)
theorem r_J6_bitCount_0f7a4_14 : IOK WB AD SR FW TB md_J6_bitCount_0f7a4 14 (.iand, 0, 0, 0, []) := io_plain (by decide +kernel) rfl
theorem r_J6_bitCount_0f7a4_15 : IOK WB AD SR FW TB md_J6_bitCount_0f7a4 15 (.iload_n 0, 0, 0, 0, []) := io_plain (by decide +kernel) rfl
theorem r_J6_bitCount_0f7a4_16 : IOK WB AD SR FW TB md_J6_bitCount_0f7a4 16 (.iconst 2, 0, 0, 0, []) := io_plain (by decide +kernel) rfl
theorem r_J6_bitCount_0f7a4_17 : IOK WB AD SR FW TB md_J6_bitCount_0f7a4 17 (.iushr, 0, 0, 0, []) := io_plain (by decide +kernel) rfl
theorem r_J6_bitCount_0f7a4_18 : IOK WB AD SR FW TB md_J6_bitCount_0f7a4 18 (.ldc_w 266, 858993459, 0, 0, []) := io_ldc_w (by decide +kernel) (wb_4 36 rfl rfl)
theorem r_J6_bitCount_0f7a4_21 : IOK WB AD SR FW TB md_J6_bitCount_0f7a4 21 (.iand, 0, 0, 0, []) := io_plain (by decide +kernel) rfl
theorem r_J6_bitCount_0f7a4_22 : IOK WB AD SR FW TB md_J6_bitCount_0f7a4 22 (.iadd, 0, 0, 0, []) := io_plain (by decide +kernel) rfl
theorem r_J6_bitCount_0f7a4_23 : IOK WB AD SR FW TB md_J6_bitCount_0f7a4 23 (.istore_n 0, 0, 0, 0, []) := io_plain (by decide +kernel) rfl
theorem r_J6_bitCount_0f7a4_24 : IOK WB AD SR FW TB md_J6_bitCount_0f7a4 24 (.iload_n 0, 0, 0, 0, []) := io_plain (by decide +kernel) rfl
theorem r_J6_bitCount_0f7a4_25 : IOK WB AD SR FW TB md_J6_bitCount_0f7a4 25 (.iload_n 0, 0, 0, 0, []) := io_plain (by decide +kernel) rfl
theorem r_J6_bitCount_0f7a4_26 : IOK WB AD SR FW TB md_J6_bitCount_0f7a4 26 (.iconst 4, 0, 0, 0, []) := io_plain (by decide +kernel) rfl
theorem r_J6_bitCount_0f7a4_27 : IOK WB AD SR FW TB md_J6_bitCount_0f7a4 27 (.iushr, 0, 0, 0, []) := io_plain (by decide +kernel) rfl
theorem r_J6_bitCount_0f7a4_28 : IOK WB AD SR FW TB md_J6_bitCount_0f7a4 28 (.iadd, 0, 0, 0, []) := io_plain (by decide +kernel) rfl
theorem r_J6_bitCount_0f7a4_29 : IOK WB AD SR FW TB md_J6_bitCount_0f7a4 29 (.ldc_w 267, 252645135, 0, 0, []) := io_ldc_w (by decide +kernel) (wb_4 37 rfl rfl)
theorem r_J6_bitCount_0f7a4_32 : IOK WB AD SR FW TB md_J6_bitCount_0f7a4 32 (.iand, 0, 0, 0, []) := io_plain (by decide +kernel) rfl
theorem r_J6_bitCount_0f7a4_33 : IOK WB AD SR FW TB md_J6_bitCount_0f7a4 33 (.istore_n 0, 0, 0, 0, []) := io_plain (by decide +kernel) rfl
theorem r_J6_bitCount_0f7a4_34 : IOK WB AD SR FW TB md_J6_bitCount_0f7a4 34 (.iload_n 0, 0, 0, 0, []) := io_plain (by decide +kernel) rfl
theorem r_J6_bitCount_0f7a4_35 : IOK WB AD SR FW TB md_J6_bitCount_0f7a4 35 (.iload_n 0, 0, 0, 0, []) := io_plain (by decide +kernel) rfl
theorem r_J6_bitCount_0f7a4_36 : IOK WB AD SR FW TB md_J6_bitCount_0f7a4 36 (.bipush 8, 0, 0, 0, []) := io_plain (by decide +kernel) rfl
theorem r_J6_bitCount_0f7a4_38 : IOK WB AD SR FW TB md_J6_bitCount_0f7a4 38 (.iushr, 0, 0, 0, []) := io_plain (by decide +kernel) rfl
theorem r_J6_bitCount_0f7a4_39 : IOK WB AD SR FW TB md_J6_bitCount_0f7a4 39 (.iadd, 0, 0, 0, []) := io_plain (by decide +kernel) rfl
