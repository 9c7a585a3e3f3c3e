theorem r_X4_collect_126 : IOK WB AD SR FW TB md_X4_collect 126 (.iload 5, 0, 0, 0, []) := io_plain (by decide +kernel) rfl
theorem r_X4_collect_128 : IOK WB AD SR FW TB md_X4_collect 128 (.ishl, 0, 0, 0, []) := io_plain (by decide +kernel) rfl
theorem r_X4_collect_129 : IOK WB AD SR FW TB md_X4_collect 129 (.iconst 1, 0, 0, 0, []) := io_plain (by decide +kernel) rfl
theorem r_X4_collect_130 : IOK WB AD SR FW TB md_X4_collect 130 (.isub, 0, 0, 0, []) := io_plain (by decide +kernel) rfl
theorem r_X4_collect_131 : IOK WB AD SR FW TB md_X4_collect 131 (.invokevirtual 67, 31, 5, 0, []) := io_virt (by decide +kernel) tb_X4_add (Or.inl (wb_4 15 rfl rfl)) in_X4_add se_X4_add ⟨_, rfl, rfl⟩ pr_X4_add (by decide)
theorem r_X4_collect_134 : IOK WB AD SR FW TB md_X4_collect 134 (.pop, 0, 0, 0, []) := io_plain (by decide +kernel) rfl
theorem r_X4_collect_135 : IOK WB AD SR FW TB md_X4_collect 135 (.iinc 3 1, 0, 0, 0, []) := io_plain (by decide +kernel) rfl
theorem r_X4_collect_138 : IOK WB AD SR FW TB md_X4_collect 138 (.goto (-122), 0, 0, 0, []) := io_plain (by decide +kernel) rfl
theorem r_X4_collect_141 : IOK WB AD SR FW TB md_X4_collect 141 (.return_, 0, 0, 0, []) := io_void (by decide +kernel) rfl
set_option maxRecDepth 100000 in
theorem ok_X4_collect_0 : ∀ q ∈ tl_X4_collect, IOK WB AD SR FW TB md_X4_collect q.1 q.2 := fun _ h => absurd h List.not_mem_nil
set_option maxRecDepth 100000 in
theorem tq_X4_collect_0 : tf_X4_collect = tl_X4_collect.map (fun q => (q.1, stepOf NPf md_X4_collect q.2)) := rfl
theorem ro_X4_collect : RowsOK (md_X4_collect, tl_X4_collect) tf_X4_collect := ⟨tq_X4_collect_0, ok_X4_collect_0⟩
theorem r_X2_canFit_0 : IOK WB AD SR FW TB md_X2_canFit 0 (.aload_n 0, 0, 0, 0, []) := io_plain (by decide +kernel) rfl
theorem r_X2_canFit_1 : IOK WB AD SR FW TB md_X2_canFit 1 (.iload_n 1, 0, 0, 0, []) := io_plain (by decide +kernel) rfl
theorem r_X2_canFit_2 : IOK WB AD SR FW TB md_X2_canFit 2 (.iconst 0, 0, 0, 0, []) := io_plain (by decide +kernel) rfl
theorem r_X2_canFit_3 : IOK WB AD SR FW TB md_X2_canFit 3 (.invokevirtual 33, 39, 3, 0, []) := io_virt (by decide +kernel) tb_X2_partAt (Or.inl (wb_3 238 rfl rfl)) in_X2_partAt se_X2_partAt ⟨_, rfl, rfl⟩ pr_X2_partAt (by decide)
theorem r_X2_canFit_6 : IOK WB AD SR FW TB md_X2_canFit 6 (.istore_n 3, 0, 0, 0, []) := io_plain (by decide +kernel) rfl
theorem r_X2_canFit_7 : IOK WB AD SR FW TB md_X2_canFit 7 (.aload_n 0, 0, 0, 0, []) := io_plain (by decide +kernel) rfl
theorem r_X2_canFit_8 : IOK WB AD SR FW TB md_X2_canFit 8 (.getfield 15, 3, 0, 2, []) := io_get (by decide +kernel) fo_RX2_15
theorem r_X2_canFit_11 : IOK WB AD SR FW TB md_X2_canFit 11 (.getfield 37, 9, 1, 2, []) := io_get (by decide +kernel) fo_RX2_37
theorem r_X2_canFit_14 : IOK WB AD SR FW TB md_X2_canFit 14 (.iload_n 3, 0, 0, 0, []) := io_plain (by decide +kernel) rfl
theorem r_X2_canFit_15 : IOK WB AD SR FW TB md_X2_canFit 15 (.iaload, 0, 0, 0, []) := io_plain (by decide +kernel) rfl
theorem r_X2_canFit_16 : IOK WB AD SR FW TB md_X2_canFit 16 (.istore 4, 0, 0, 0, []) := io_plain (by decide +kernel) rfl
theorem r_X2_canFit_18 : IOK WB AD SR FW TB md_X2_canFit 18 (.iload 4, 0, 0, 0, []) := io_plain (by decide +kernel) rfl
theorem r_X2_canFit_20 : IOK WB AD SR FW TB md_X2_canFit 20 (.invokestatic 41, 16, 11, 0, []) := io_stat (by decide +kernel) tb_X10_operatorIn (Or.inr ⟨rfl, rfl, "RuleForge", List.mem_of_getElem? (i := 3) rfl⟩) st_X10_operatorIn pr_X10_operatorIn
theorem r_X2_canFit_23 : IOK WB AD SR FW TB md_X2_canFit 23 (.istore 5, 0, 0, 0, []) := io_plain (by decide +kernel) rfl
theorem r_X2_canFit_25 : IOK WB AD SR FW TB md_X2_canFit 25 (.aload_n 0, 0, 0, 0, []) := io_plain (by decide +kernel) rfl
theorem r_X2_canFit_26 : IOK WB AD SR FW TB md_X2_canFit 26 (.getfield 25, 3, 1, 2, []) := io_get (by decide +kernel) fo_RX2_25
theorem r_X2_canFit_29 : IOK WB AD SR FW TB md_X2_canFit 29 (.getfield 45, 8, 6, 2, []) := io_get (by decide +kernel) fo_RX2_45
theorem r_X2_canFit_32 : IOK WB AD SR FW TB md_X2_canFit 32 (.iload 5, 0, 0, 0, []) := io_plain (by decide +kernel) rfl
theorem r_X2_canFit_34 : IOK WB AD SR FW TB md_X2_canFit 34 (.iaload, 0, 0, 0, []) := io_plain (by decide +kernel) rfl
theorem r_X2_canFit_35 : IOK WB AD SR FW TB md_X2_canFit 35 (.iconst (-1), 0, 0, 0, []) := io_plain (by decide +kernel) rfl
theorem r_X2_canFit_36 : IOK WB AD SR FW TB md_X2_canFit 36 (.if_icmp .eq 5, 0, 0, 0, []) := io_plain (by decide +kernel) rfl
theorem r_X2_canFit_41 : IOK WB AD SR FW TB md_X2_canFit 41 (.aload_n 0, 0, 0, 0, []) := io_plain (by decide +kernel) rfl
theorem r_X2_canFit_42 : IOK WB AD SR FW TB md_X2_canFit 42 (.getfield 15, 3, 0, 2, []) := io_get (by decide +kernel) fo_RX2_15
theorem r_X2_canFit_45 : IOK WB AD SR FW TB md_X2_canFit 45 (.getfield 37, 9, 1, 2, []) := io_get (by decide +kernel) fo_RX2_37
theorem r_X2_canFit_48 : IOK WB AD SR FW TB md_X2_canFit 48 (.iload_n 2, 0, 0, 0, []) := io_plain (by decide +kernel) rfl
theorem r_X2_canFit_49 : IOK WB AD SR FW TB md_X2_canFit 49 (.iaload, 0, 0, 0, []) := io_plain (by decide +kernel) rfl
theorem r_X2_canFit_50 : IOK WB AD SR FW TB md_X2_canFit 50 (.istore 6, 0, 0, 0, []) := io_plain (by decide +kernel) rfl
theorem r_X2_canFit_52 : IOK WB AD SR FW TB md_X2_canFit 52 (.iload 6, 0, 0, 0, []) := io_plain (by decide +kernel) rfl
theorem r_X2_canFit_54 : IOK WB AD SR FW TB md_X2_canFit 54 (.bipush 32, 0, 0, 0, []) := io_plain (by decide +kernel) rfl
theorem r_X2_canFit_56 : IOK WB AD SR FW TB md_X2_canFit 56 (.if_icmp .lt 13, 0, 0, 0, []) := io_plain (by decide +kernel) rfl
theorem r_X2_canFit_59 : IOK WB AD SR FW TB md_X2_canFit 59 (.iload 6, 0, 0, 0, []) := io_plain (by decide +kernel) rfl
theorem r_X2_canFit_61 : IOK WB AD SR FW TB md_X2_canFit 61 (.invokestatic 41, 16, 11, 0, []) := io_stat (by decide +kernel) tb_X10_operatorIn (Or.inr ⟨rfl, rfl, "RuleForge", List.mem_of_getElem? (i := 3) rfl⟩) st_X10_operatorIn pr_X10_operatorIn
theorem r_X2_canFit_64 : IOK WB AD SR FW TB md_X2_canFit 64 (.iload 5, 0, 0, 0, []) := io_plain (by decide +kernel) rfl
theorem r_X2_canFit_66 : IOK WB AD SR FW TB md_X2_canFit 66 (.if_icmp .eq 5, 0, 0, 0, []) := io_plain (by decide +kernel) rfl
theorem r_X2_canFit_71 : IOK WB AD SR FW TB md_X2_canFit 71 (.aload_n 0, 0, 0, 0, []) := io_plain (by decide +kernel) rfl
theorem r_X2_canFit_72 : IOK WB AD SR FW TB md_X2_canFit 72 (.getfield 25, 3, 1, 2, []) := io_get (by decide +kernel) fo_RX2_25
theorem r_X2_canFit_75 : IOK WB AD SR FW TB md_X2_canFit 75 (.getfield 50, 8, 5, 2, []) := io_get (by decide +kernel) fo_RX2_50
theorem r_X2_canFit_78 : IOK WB AD SR FW TB md_X2_canFit 78 (.iload 5, 0, 0, 0, []) := io_plain (by decide +kernel) rfl
theorem r_X2_canFit_80 : IOK WB AD SR FW TB md_X2_canFit 80 (.iaload, 0, 0, 0, []) := io_plain (by decide +kernel) rfl
theorem r_X2_canFit_81 : IOK WB AD SR FW TB md_X2_canFit 81 (.ifCond .eq 5, 0, 0, 0, []) := io_plain (by decide +kernel) rfl
theorem r_X2_canFit_86 : IOK WB AD SR FW TB md_X2_canFit 86 (.iload_n 3, 0, 0, 0, []) := io_plain (by decide +kernel) rfl
theorem r_X2_canFit_87 : IOK WB AD SR FW TB md_X2_canFit 87 (.iconst 1, 0, 0, 0, []) := io_plain (by decide +kernel) rfl
theorem r_X2_canFit_88 : IOK WB AD SR FW TB md_X2_canFit 88 (.iadd, 0, 0, 0, []) := io_plain (by decide +kernel) rfl
theorem r_X2_canFit_89 : IOK WB AD SR FW TB md_X2_canFit 89 (.istore 7, 0, 0, 0, []) := io_plain (by decide +kernel) rfl
theorem r_X2_canFit_91 : IOK WB AD SR FW TB md_X2_canFit 91 (.iload_n 2, 0, 0, 0, []) := io_plain (by decide +kernel) rfl
theorem r_X2_canFit_92 : IOK WB AD SR FW TB md_X2_canFit 92 (.iconst 1, 0, 0, 0, []) := io_plain (by decide +kernel) rfl
theorem r_X2_canFit_93 : IOK WB AD SR FW TB md_X2_canFit 93 (.iadd, 0, 0, 0, []) := io_plain (by decide +kernel) rfl
theorem r_X2_canFit_94 : IOK WB AD SR FW TB md_X2_canFit 94 (.istore 8, 0, 0, 0, []) := io_plain (by decide +kernel) rfl
theorem r_X2_canFit_96 : IOK WB AD SR FW TB md_X2_canFit 96 (.iconst 0, 0, 0, 0, []) := io_plain (by decide +kernel) rfl
theorem r_X2_canFit_97 : IOK WB AD SR FW TB md_X2_canFit 97 (.istore 9, 0, 0, 0, []) := io_plain (by decide +kernel) rfl
theorem r_X2_canFit_99 : IOK WB AD SR FW TB md_X2_canFit 99 (.iload 9, 0, 0, 0, []) := io_plain (by decide +kernel) rfl
theorem r_X2_canFit_101 : IOK WB AD SR FW TB md_X2_canFit 101 (.iload 4, 0, 0, 0, []) := io_plain (by decide +kernel) rfl
theorem r_X2_canFit_103 : IOK WB AD SR FW TB md_X2_canFit 103 (.bipush 8, 0, 0, 0, []) := io_plain (by decide +kernel) rfl
theorem r_X2_canFit_105 : IOK WB AD SR FW TB md_X2_canFit 105 (.irem, 0, 0, 0, []) := io_plain (by decide +kernel) rfl
theorem r_X2_canFit_106 : IOK WB AD SR FW TB md_X2_canFit 106 (.if_icmp .ge 60, 0, 0, 0, []) := io_plain (by decide +kernel) rfl
theorem r_X2_canFit_166 : IOK WB AD SR FW TB md_X2_canFit 166 (.iconst 1, 0, 0, 0, []) := io_plain (by decide +kernel) rfl
theorem r_X2_canFit_167 : IOK WB AD SR FW TB md_X2_canFit 167 (.ireturn, 0, 0, 0, []) := io_plain (by decide +kernel) rfl
set_option maxRecDepth 100000 in
theorem ok_X2_canFit_0 : ∀ q ∈ tl_X2_canFit, IOK WB AD SR FW TB md_X2_canFit q.1 q.2 := fun _ h => absurd h List.not_mem_nil
set_option maxRecDepth 100000 in
theorem tq_X2_canFit_0 : tf_X2_canFit = tl_X2_canFit.map (fun q => (q.1, stepOf NPf md_X2_canFit q.2)) := rfl
theorem ro_X2_canFit : RowsOK (md_X2_canFit, tl_X2_canFit) tf_X2_canFit := ⟨tq_X2_canFit_0, ok_X2_canFit_0⟩
theorem r_X6_finish_0 : IOK WB AD SR FW TB md_X6_finish 0 (.aload_n 0, 0, 0, 0, []) := io_plain (by decide +kernel) rfl
theorem r_X6_finish_1 : IOK WB AD SR FW TB md_X6_finish 1 (.getfield 11, 7, 5, 2, []) := io_get (by decide +kernel) fo_RX6_11
theorem r_X6_finish_4 : IOK WB AD SR FW TB md_X6_finish 4 (.iload_n 1, 0, 0, 0, []) := io_plain (by decide +kernel) rfl
theorem r_X6_finish_5 : IOK WB AD SR FW TB md_X6_finish 5 (.iaload, 0, 0, 0, []) := io_plain (by decide +kernel) rfl
theorem r_X6_finish_6 : IOK WB AD SR FW TB md_X6_finish 6 (.istore 4, 0, 0, 0, []) := io_plain (by decide +kernel) rfl
theorem r_X6_finish_8 : IOK WB AD SR FW TB md_X6_finish 8 (.aload_n 0, 0, 0, 0, []) := io_plain (by decide +kernel) rfl
theorem r_X6_finish_9 : IOK WB AD SR FW TB md_X6_finish 9 (.getfield 33, 7, 0, 2, []) := io_get (by decide +kernel) fo_RX6_33
theorem r_X6_finish_12 : IOK WB AD SR FW TB md_X6_finish 12 (.getfield 67, 9, 1, 2, []) := io_get (by decide +kernel) fo_RX6_67
theorem r_X6_finish_15 : IOK WB AD SR FW TB md_X6_finish 15 (.iload 4, 0, 0, 0, []) := io_plain (by decide +kernel) rfl
theorem r_X6_finish_17 : IOK WB AD SR FW TB md_X6_finish 17 (.iaload, 0, 0, 0, []) := io_plain (by decide +kernel) rfl
theorem r_X6_finish_18 : IOK WB AD SR FW TB md_X6_finish 18 (.istore 5, 0, 0, 0, []) := io_plain (by decide +kernel) rfl
theorem r_X6_finish_20 : IOK WB AD SR FW TB md_X6_finish 20 (.iload 5, 0, 0, 0, []) := io_plain (by decide +kernel) rfl
theorem r_X6_finish_22 : IOK WB AD SR FW TB md_X6_finish 22 (.bipush 32, 0, 0, 0, []) := io_plain (by decide +kernel) rfl
theorem r_X6_finish_24 : IOK WB AD SR FW TB md_X6_finish 24 (.if_icmp .ge 8, 0, 0, 0, []) := io_plain (by decide +kernel) rfl
theorem r_X6_finish_32 : IOK WB AD SR FW TB md_X6_finish 32 (.aload_n 0, 0, 0, 0, []) := io_plain (by decide +kernel) rfl
theorem r_X6_finish_33 : IOK WB AD SR FW TB md_X6_finish 33 (.getfield 33, 7, 0, 2, []) := io_get (by decide +kernel) fo_RX6_33
theorem r_X6_finish_36 : IOK WB AD SR FW TB md_X6_finish 36 (.iload 5, 0, 0, 0, []) := io_plain (by decide +kernel) rfl
theorem r_X6_finish_38 : IOK WB AD SR FW TB md_X6_finish 38 (.invokestatic 73, 16, 11, 0, []) := io_stat (by decide +kernel) tb_X10_operatorIn (Or.inr ⟨rfl, rfl, "RuleForge", List.mem_of_getElem? (i := 4) rfl⟩) st_X10_operatorIn pr_X10_operatorIn
theorem r_X6_finish_41 : IOK WB AD SR FW TB md_X6_finish 41 (.aload_n 0, 0, 0, 0, []) := io_plain (by decide +kernel) rfl
theorem r_X6_finish_42 : IOK WB AD SR FW TB md_X6_finish 42 (.getfield 24, 7, 9, 2, []) := io_get (by decide +kernel) fo_RX6_24
theorem r_X6_finish_45 : IOK WB AD SR FW TB md_X6_finish 45 (.iload_n 1, 0, 0, 0, []) := io_plain (by decide +kernel) rfl
theorem r_X6_finish_46 : IOK WB AD SR FW TB md_X6_finish 46 (.iaload, 0, 0, 0, []) := io_plain (by decide +kernel) rfl
theorem r_X6_finish_47 : IOK WB AD SR FW TB md_X6_finish 47 (.invokevirtual 76, 2, 9, 0, []) := io_virt (by decide +kernel) tb_X8_putOn (Or.inl (wb_3 229 rfl rfl)) in_X8_putOn se_X8_putOn ⟨_, rfl, rfl⟩ pr_X8_putOn (by decide)
theorem r_X6_finish_50 : IOK WB AD SR FW TB md_X6_finish 50 (.istore 6, 0, 0, 0, []) := io_plain (by decide +kernel) rfl
theorem r_X6_finish_52 : IOK WB AD SR FW TB md_X6_finish 52 (.iload 6, 0, 0, 0, []) := io_plain (by decide +kernel) rfl
theorem r_X6_finish_54 : IOK WB AD SR FW TB md_X6_finish 54 (.ifCond .ge 6, 0, 0, 0, []) := io_plain (by decide +kernel) rfl
theorem r_X6_finish_60 : IOK WB AD SR FW TB md_X6_finish 60 (.aload_n 0, 0, 0, 0, []) := io_plain (by decide +kernel) rfl
theorem r_X6_finish_61 : IOK WB AD SR FW TB md_X6_finish 61 (.getfield 33, 7, 0, 2, []) := io_get (by decide +kernel) fo_RX6_33
theorem r_X6_finish_64 : IOK WB AD SR FW TB md_X6_finish 64 (.getfield 67, 9, 1, 2, []) := io_get (by decide +kernel) fo_RX6_67
theorem r_X6_finish_67 : IOK WB AD SR FW TB md_X6_finish 67 (.iload 6, 0, 0, 0, []) := io_plain (by decide +kernel) rfl
theorem r_X6_finish_69 : IOK WB AD SR FW TB md_X6_finish 69 (.iaload, 0, 0, 0, []) := io_plain (by decide +kernel) rfl
theorem r_X6_finish_70 : IOK WB AD SR FW TB md_X6_finish 70 (.bipush 32, 0, 0, 0, []) := io_plain (by decide +kernel) rfl
theorem r_X6_finish_72 : IOK WB AD SR FW TB md_X6_finish 72 (.if_icmp .ge 7, 0, 0, 0, []) := io_plain (by decide +kernel) rfl
theorem r_X6_finish_79 : IOK WB AD SR FW TB md_X6_finish 79 (.aload_n 0, 0, 0, 0, []) := io_plain (by decide +kernel) rfl
theorem r_X6_finish_80 : IOK WB AD SR FW TB md_X6_finish 80 (.iload 6, 0, 0, 0, []) := io_plain (by decide +kernel) rfl
theorem r_X6_finish_82 : IOK WB AD SR FW TB md_X6_finish 82 (.iload_n 3, 0, 0, 0, []) := io_plain (by decide +kernel) rfl
theorem r_X6_finish_83 : IOK WB AD SR FW TB md_X6_finish 83 (.invokevirtual 80, 22, 7, 0, []) := io_virt (by decide +kernel) tb_X6_rewritten (Or.inl (wb_3 230 rfl rfl)) in_X6_rewritten se_X6_rewritten ⟨_, rfl, rfl⟩ pr_X6_rewritten (by decide)
theorem r_X6_finish_86 : IOK WB AD SR FW TB md_X6_finish 86 (.istore 7, 0, 0, 0, []) := io_plain (by decide +kernel) rfl
theorem r_X6_finish_88 : IOK WB AD SR FW TB md_X6_finish 88 (.iload 7, 0, 0, 0, []) := io_plain (by decide +kernel) rfl
theorem r_X6_finish_90 : IOK WB AD SR FW TB md_X6_finish 90 (.bipush (-2), 0, 0, 0, []) := io_plain (by decide +kernel) rfl
theorem r_X6_finish_92 : IOK WB AD SR FW TB md_X6_finish 92 (.if_icmp .ne 6, 0, 0, 0, []) := io_plain (by decide +kernel) rfl
theorem r_X6_finish_95 : IOK WB AD SR FW TB md_X6_finish 95 (.bipush (-2), 0, 0, 0, []) := io_plain (by decide +kernel) rfl
theorem r_X6_finish_97 : IOK WB AD SR FW TB md_X6_finish 97 (.ireturn, 0, 0, 0, []) := io_plain (by decide +kernel) rfl
theorem r_X6_finish_98 : IOK WB AD SR FW TB md_X6_finish 98 (.iload 7, 0, 0, 0, []) := io_plain (by decide +kernel) rfl
theorem r_X6_finish_100 : IOK WB AD SR FW TB md_X6_finish 100 (.iconst (-1), 0, 0, 0, []) := io_plain (by decide +kernel) rfl
theorem r_X6_finish_101 : IOK WB AD SR FW TB md_X6_finish 101 (.if_icmp .eq 25, 0, 0, 0, []) := io_plain (by decide +kernel) rfl
theorem r_X6_finish_104 : IOK WB AD SR FW TB md_X6_finish 104 (.aload_n 0, 0, 0, 0, []) := io_plain (by decide +kernel) rfl
theorem r_X6_finish_105 : IOK WB AD SR FW TB md_X6_finish 105 (.iload_n 1, 0, 0, 0, []) := io_plain (by decide +kernel) rfl
theorem r_X6_finish_106 : IOK WB AD SR FW TB md_X6_finish 106 (.aload_n 0, 0, 0, 0, []) := io_plain (by decide +kernel) rfl
theorem r_X6_finish_107 : IOK WB AD SR FW TB md_X6_finish 107 (.getfield 33, 7, 0, 2, []) := io_get (by decide +kernel) fo_RX6_33
theorem r_X6_finish_110 : IOK WB AD SR FW TB md_X6_finish 110 (.aload_n 0, 0, 0, 0, []) := io_plain (by decide +kernel) rfl
theorem r_X6_finish_111 : IOK WB AD SR FW TB md_X6_finish 111 (.getfield 15, 7, 6, 2, []) := io_get (by decide +kernel) fo_RX6_15
theorem r_X6_finish_114 : IOK WB AD SR FW TB md_X6_finish 114 (.iload_n 1, 0, 0, 0, []) := io_plain (by decide +kernel) rfl
theorem r_X6_finish_115 : IOK WB AD SR FW TB md_X6_finish 115 (.iaload, 0, 0, 0, []) := io_plain (by decide +kernel) rfl
theorem r_X6_finish_116 : IOK WB AD SR FW TB md_X6_finish 116 (.iload 7, 0, 0, 0, []) := io_plain (by decide +kernel) rfl
theorem r_X6_finish_118 : IOK WB AD SR FW TB md_X6_finish 118 (.invokevirtual 83, 34, 9, 0, []) := io_virt (by decide +kernel) tb_X8_settle (Or.inl (wb_4 126 rfl rfl)) in_X8_settle se_X8_settle ⟨_, rfl, rfl⟩ pr_X8_settle (by decide)
theorem r_X6_finish_121 : IOK WB AD SR FW TB md_X6_finish 121 (.invokevirtual 63, 7, 7, 0, []) := io_virt (by decide +kernel) tb_X6_look (Or.inl (wb_3 218 rfl rfl)) in_X6_look se_X6_look ⟨_, rfl, rfl⟩ pr_X6_look (by decide)
theorem r_X6_finish_124 : IOK WB AD SR FW TB md_X6_finish 124 (.iconst (-1), 0, 0, 0, []) := io_plain (by decide +kernel) rfl
theorem r_X6_finish_125 : IOK WB AD SR FW TB md_X6_finish 125 (.ireturn, 0, 0, 0, []) := io_plain (by decide +kernel) rfl
set_option maxRecDepth 100000 in
theorem ok_X6_finish_0 : ∀ q ∈ tl_X6_finish, IOK WB AD SR FW TB md_X6_finish q.1 q.2 := fun _ h => absurd h List.not_mem_nil
set_option maxRecDepth 100000 in
theorem tq_X6_finish_0 : tf_X6_finish = tl_X6_finish.map (fun q => (q.1, stepOf NPf md_X6_finish q.2)) := rfl
theorem ro_X6_finish : RowsOK (md_X6_finish, tl_X6_finish) tf_X6_finish := ⟨tq_X6_finish_0, ok_X6_finish_0⟩
theorem r_X17_used_0 : IOK WB AD SR FW TB md_X17_used 0 (.iconst 0, 0, 0, 0, []) := io_plain (by decide +kernel) rfl
theorem r_X17_used_1 : IOK WB AD SR FW TB md_X17_used 1 (.istore 4, 0, 0, 0, []) := io_plain (by decide +kernel) rfl
theorem r_X17_used_3 : IOK WB AD SR FW TB md_X17_used 3 (.iload 4, 0, 0, 0, []) := io_plain (by decide +kernel) rfl
theorem r_X17_used_5 : IOK WB AD SR FW TB md_X17_used 5 (.aload_n 0, 0, 0, 0, []) := io_plain (by decide +kernel) rfl
theorem r_X17_used_6 : IOK WB AD SR FW TB md_X17_used 6 (.getfield 54, 18, 15, 2, []) := io_get (by decide +kernel) fo_RX17_54
theorem r_X17_used_9 : IOK WB AD SR FW TB md_X17_used 9 (.invokeinterface 271 1, 24, 0, 0, []) := io_face (by decide +kernel) tb_Jx4a65c_size_8abf5 (List.mem_of_getElem? (i := 0) rfl) (wb_8 32 rfl rfl) in_Jx4a65c_size_8abf5 (wb_8 35 rfl rfl) rfl rfl rfl pr_Jx4a65c_size_8abf5 (by decide)
theorem r_X17_used_14 : IOK WB AD SR FW TB md_X17_used 14 (.if_icmp .ge 160, 0, 0, 0, []) := io_plain (by decide +kernel) rfl
theorem r_X17_used_17 : IOK WB AD SR FW TB md_X17_used 17 (.aload_n 0, 0, 0, 0, []) := io_plain (by decide +kernel) rfl
theorem r_X17_used_18 : IOK WB AD SR FW TB md_X17_used 18 (.getfield 54, 18, 15, 2, []) := io_get (by decide +kernel) fo_RX17_54
theorem r_X17_used_21 : IOK WB AD SR FW TB md_X17_used 21 (.iload 4, 0, 0, 0, []) := io_plain (by decide +kernel) rfl
theorem r_X17_used_23 : IOK WB AD SR FW TB md_X17_used 23 (.invokeinterface 275 2, 51, 0, 0, []) := io_face (by decide +kernel) tb_Jx4a65c_get_915e3 (List.mem_of_getElem? (i := 1) rfl) (wb_8 146 rfl rfl) in_Jx4a65c_get_915e3 (wb_8 149 rfl rfl) rfl rfl rfl pr_Jx4a65c_get_915e3 (by decide)
theorem r_X17_used_28 : IOK WB AD SR FW TB md_X17_used 28 (.checkcast 254, 14, 0, 0, []) := io_cast (by decide +kernel) ⟨_, rfl, (wb_8 158 rfl rfl)⟩
theorem r_X17_used_31 : IOK WB AD SR FW TB md_X17_used 31 (.astore 5, 0, 0, 0, []) := io_plain (by decide +kernel) rfl
theorem r_X17_used_33 : IOK WB AD SR FW TB md_X17_used 33 (.aload_n 0, 0, 0, 0, []) := io_plain (by decide +kernel) rfl
theorem r_X17_used_34 : IOK WB AD SR FW TB md_X17_used 34 (.aload 5, 0, 0, 0, []) := io_plain (by decide +kernel) rfl
theorem r_X17_used_36 : IOK WB AD SR FW TB md_X17_used 36 (.getfield 279, 14, 0, 2, []) := io_get (by decide +kernel) fo_RX17_279
theorem r_X17_used_39 : IOK WB AD SR FW TB md_X17_used 39 (.aload_n 1, 0, 0, 0, []) := io_plain (by decide +kernel) rfl
theorem r_X17_used_40 : IOK WB AD SR FW TB md_X17_used 40 (.aload 5, 0, 0, 0, []) := io_plain (by decide +kernel) rfl
theorem r_X17_used_42 : IOK WB AD SR FW TB md_X17_used 42 (.getfield 253, 14, 2, 2, []) := io_get (by decide +kernel) fo_RX17_253
theorem r_X17_used_45 : IOK WB AD SR FW TB md_X17_used 45 (.ifnonnull 7, 0, 0, 0, []) := io_plain (by decide +kernel) rfl
theorem r_X17_used_48 : IOK WB AD SR FW TB md_X17_used 48 (.iconst 1, 0, 0, 0, []) := io_plain (by decide +kernel) rfl
theorem r_X17_used_49 : IOK WB AD SR FW TB md_X17_used 49 (.goto 12, 0, 0, 0, []) := io_plain (by decide +kernel) rfl
theorem r_X17_used_61 : IOK WB AD SR FW TB md_X17_used 61 (.invokevirtual 282, 17, 18, 0, []) := io_virt (by decide +kernel) tb_X17_found (Or.inl (wb_8 159 rfl rfl)) in_X17_found se_X17_found ⟨_, rfl, rfl⟩ pr_X17_found (by decide)
theorem r_X17_used_64 : IOK WB AD SR FW TB md_X17_used 64 (.istore 6, 0, 0, 0, []) := io_plain (by decide +kernel) rfl
theorem r_X17_used_66 : IOK WB AD SR FW TB md_X17_used 66 (.iload 6, 0, 0, 0, []) := io_plain (by decide +kernel) rfl
theorem r_X17_used_68 : IOK WB AD SR FW TB md_X17_used 68 (.ifCond .ne 10, 0, 0, 0, []) := io_plain (by decide +kernel) rfl
theorem r_X17_used_78 : IOK WB AD SR FW TB md_X17_used 78 (.aload_n 0, 0, 0, 0, []) := io_plain (by decide +kernel) rfl
theorem r_X17_used_79 : IOK WB AD SR FW TB md_X17_used 79 (.iload 6, 0, 0, 0, []) := io_plain (by decide +kernel) rfl
theorem r_X17_used_81 : IOK WB AD SR FW TB md_X17_used 81 (.invokevirtual 286, 36, 18, 0, []) := io_virt (by decide +kernel) tb_X17_keeps (Or.inl (wb_8 234 rfl rfl)) in_X17_keeps se_X17_keeps ⟨_, rfl, rfl⟩ pr_X17_keeps (by decide)
theorem r_X17_used_84 : IOK WB AD SR FW TB md_X17_used 84 (.astore 7, 0, 0, 0, []) := io_plain (by decide +kernel) rfl
theorem r_X17_used_86 : IOK WB AD SR FW TB md_X17_used 86 (.iconst 0, 0, 0, 0, []) := io_plain (by decide +kernel) rfl
theorem r_X17_used_87 : IOK WB AD SR FW TB md_X17_used 87 (.istore 8, 0, 0, 0, []) := io_plain (by decide +kernel) rfl
theorem r_X17_used_89 : IOK WB AD SR FW TB md_X17_used 89 (.iload 8, 0, 0, 0, []) := io_plain (by decide +kernel) rfl
theorem r_X17_used_91 : IOK WB AD SR FW TB md_X17_used 91 (.iload 6, 0, 0, 0, []) := io_plain (by decide +kernel) rfl
theorem r_X17_used_93 : IOK WB AD SR FW TB md_X17_used 93 (.if_icmp .ge 75, 0, 0, 0, []) := io_plain (by decide +kernel) rfl
theorem r_X17_used_96 : IOK WB AD SR FW TB md_X17_used 96 (.aload 5, 0, 0, 0, []) := io_plain (by decide +kernel) rfl
theorem r_X17_used_98 : IOK WB AD SR FW TB md_X17_used 98 (.getfield 279, 14, 0, 2, []) := io_get (by decide +kernel) fo_RX17_279
theorem r_X17_used_101 : IOK WB AD SR FW TB md_X17_used 101 (.aload 7, 0, 0, 0, []) := io_plain (by decide +kernel) rfl
theorem r_X17_used_103 : IOK WB AD SR FW TB md_X17_used 103 (.iload 8, 0, 0, 0, []) := io_plain (by decide +kernel) rfl
theorem r_X17_used_105 : IOK WB AD SR FW TB md_X17_used 105 (.invokestatic 290, 19, 18, 0, []) := io_stat (by decide +kernel) tb_X17_givenBy (Or.inl (wb_8 238 rfl rfl)) st_X17_givenBy pr_X17_givenBy
theorem r_X17_used_108 : IOK WB AD SR FW TB md_X17_used 108 (.astore 9, 0, 0, 0, []) := io_plain (by decide +kernel) rfl
theorem r_X17_used_110 : IOK WB AD SR FW TB md_X17_used 110 (.aload_n 0, 0, 0, 0, []) := io_plain (by decide +kernel) rfl
theorem r_X17_used_111 : IOK WB AD SR FW TB md_X17_used 111 (.aload 5, 0, 0, 0, []) := io_plain (by decide +kernel) rfl
theorem r_X17_used_113 : IOK WB AD SR FW TB md_X17_used 113 (.aload 9, 0, 0, 0, []) := io_plain (by decide +kernel) rfl
theorem r_X17_used_115 : IOK WB AD SR FW TB md_X17_used 115 (.aload_n 2, 0, 0, 0, []) := io_plain (by decide +kernel) rfl
theorem r_X17_used_116 : IOK WB AD SR FW TB md_X17_used 116 (.iload_n 3, 0, 0, 0, []) := io_plain (by decide +kernel) rfl
theorem r_X17_used_117 : IOK WB AD SR FW TB md_X17_used 117 (.invokevirtual 294, 69, 18, 0, []) := io_virt (by decide +kernel) tb_X17_isHeld (Or.inl (wb_9 1 rfl rfl)) in_X17_isHeld se_X17_isHeld ⟨_, rfl, rfl⟩ pr_X17_isHeld (by decide)
theorem r_X17_used_120 : IOK WB AD SR FW TB md_X17_used 120 (.ifCond .eq 42, 0, 0, 0, []) := io_plain (by decide +kernel) rfl
theorem r_X17_used_123 : IOK WB AD SR FW TB md_X17_used 123 (.aload_n 2, 0, 0, 0, []) := io_plain (by decide +kernel) rfl
theorem r_X17_used_124 : IOK WB AD SR FW TB md_X17_used 124 (.getfield 259, 16, 0, 0, []) := io_get (by decide +kernel) fo_RX17_259
theorem r_X17_used_127 : IOK WB AD SR FW TB md_X17_used 127 (.bipush 60, 0, 0, 0, []) := io_plain (by decide +kernel) rfl
theorem r_X17_used_129 : IOK WB AD SR FW TB md_X17_used 129 (.if_icmp .ne 11, 0, 0, 0, []) := io_plain (by decide +kernel) rfl
theorem r_X17_used_140 : IOK WB AD SR FW TB md_X17_used 140 (.aload_n 2, 0, 0, 0, []) := io_plain (by decide +kernel) rfl
theorem r_X17_used_141 : IOK WB AD SR FW TB md_X17_used 141 (.dup, 0, 0, 0, []) := io_plain (by decide +kernel) rfl
theorem r_X17_used_142 : IOK WB AD SR FW TB md_X17_used 142 (.getfield 259, 16, 0, 0, []) := io_get (by decide +kernel) fo_RX17_259
theorem r_X17_used_145 : IOK WB AD SR FW TB md_X17_used 145 (.iconst 1, 0, 0, 0, []) := io_plain (by decide +kernel) rfl
theorem r_X17_used_146 : IOK WB AD SR FW TB md_X17_used 146 (.iadd, 0, 0, 0, []) := io_plain (by decide +kernel) rfl
theorem r_X17_used_147 : IOK WB AD SR FW TB md_X17_used 147 (.putfield 259, 16, 0, 0, []) := io_put (by decide +kernel) fo_RX17_259 po_RX17_0_16_0_0
theorem r_X17_used_150 : IOK WB AD SR FW TB md_X17_used 150 (.aload_n 0, 0, 0, 0, []) := io_plain (by decide +kernel) rfl
theorem r_X17_used_151 : IOK WB AD SR FW TB md_X17_used 151 (.aload 5, 0, 0, 0, []) := io_plain (by decide +kernel) rfl
theorem r_X17_used_153 : IOK WB AD SR FW TB md_X17_used 153 (.getfield 298, 14, 1, 2, []) := io_get (by decide +kernel) fo_RX17_298
theorem r_X17_used_156 : IOK WB AD SR FW TB md_X17_used 156 (.aload 9, 0, 0, 0, []) := io_plain (by decide +kernel) rfl
theorem r_X17_used_158 : IOK WB AD SR FW TB md_X17_used 158 (.invokevirtual 242, 5, 18, 0, []) := io_virt (by decide +kernel) tb_X17_placed (Or.inl (wb_9 5 rfl rfl)) in_X17_placed se_X17_placed ⟨_, rfl, rfl⟩ pr_X17_placed (by decide)
theorem r_X17_used_161 : IOK WB AD SR FW TB md_X17_used 161 (.areturn, 0, 0, 0, []) := io_aret (by decide +kernel) rfl
set_option maxRecDepth 100000 in
theorem ok_X17_used_0 : ∀ q ∈ tl_X17_used_0, IOK WB AD SR FW TB md_X17_used q.1 q.2 := List.forall_mem_cons.mpr ⟨r_X17_used_0, List.forall_mem_cons.mpr ⟨r_X17_used_1, List.forall_mem_cons.mpr ⟨r_X17_used_3, List.forall_mem_cons.mpr ⟨r_X17_used_5, List.forall_mem_cons.mpr ⟨r_X17_used_6, List.forall_mem_cons.mpr ⟨r_X17_used_9, List.forall_mem_cons.mpr ⟨r_X17_used_14, List.forall_mem_cons.mpr ⟨r_X17_used_17, List.forall_mem_cons.mpr ⟨r_X17_used_18, List.forall_mem_cons.mpr ⟨r_X17_used_21, List.forall_mem_cons.mpr ⟨r_X17_used_23, List.forall_mem_cons.mpr ⟨r_X17_used_28, List.forall_mem_cons.mpr ⟨r_X17_used_31, List.forall_mem_cons.mpr ⟨r_X17_used_33, List.forall_mem_cons.mpr ⟨r_X17_used_34, List.forall_mem_cons.mpr ⟨r_X17_used_36, List.forall_mem_cons.mpr ⟨r_X17_used_39, List.forall_mem_cons.mpr ⟨r_X17_used_40, List.forall_mem_cons.mpr ⟨r_X17_used_42, List.forall_mem_cons.mpr ⟨r_X17_used_45, List.forall_mem_cons.mpr ⟨r_X17_used_48, List.forall_mem_cons.mpr ⟨r_X17_used_49, List.forall_mem_cons.mpr ⟨r_X17_used_61, List.forall_mem_cons.mpr ⟨r_X17_used_64, List.forall_mem_cons.mpr ⟨r_X17_used_66, List.forall_mem_cons.mpr ⟨r_X17_used_68, List.forall_mem_cons.mpr ⟨r_X17_used_78, List.forall_mem_cons.mpr ⟨r_X17_used_79, List.forall_mem_cons.mpr ⟨r_X17_used_81, List.forall_mem_cons.mpr ⟨r_X17_used_84, List.forall_mem_cons.mpr ⟨r_X17_used_86, List.forall_mem_cons.mpr ⟨r_X17_used_87, List.forall_mem_cons.mpr ⟨r_X17_used_89, List.forall_mem_cons.mpr ⟨r_X17_used_91, List.forall_mem_cons.mpr ⟨r_X17_used_93, List.forall_mem_cons.mpr ⟨r_X17_used_96, List.forall_mem_cons.mpr ⟨r_X17_used_98, List.forall_mem_cons.mpr ⟨r_X17_used_101, List.forall_mem_cons.mpr ⟨r_X17_used_103, List.forall_mem_cons.mpr ⟨r_X17_used_105, fun _ h => absurd h List.not_mem_nil⟩⟩⟩⟩⟩⟩⟩⟩⟩⟩⟩⟩⟩⟩⟩⟩⟩⟩⟩⟩⟩⟩⟩⟩⟩⟩⟩⟩⟩⟩⟩⟩⟩⟩⟩⟩⟩⟩⟩⟩
set_option maxRecDepth 100000 in
theorem tq_X17_used_0 : tf_X17_used_0 = tl_X17_used_0.map (fun q => (q.1, stepOf NPf md_X17_used q.2)) := rfl
set_option maxRecDepth 100000 in
theorem ok_X17_used_1 : ∀ q ∈ tl_X17_used_1, IOK WB AD SR FW TB md_X17_used q.1 q.2 := List.forall_mem_cons.mpr ⟨r_X17_used_108, List.forall_mem_cons.mpr ⟨r_X17_used_110, List.forall_mem_cons.mpr ⟨r_X17_used_111, List.forall_mem_cons.mpr ⟨r_X17_used_113, List.forall_mem_cons.mpr ⟨r_X17_used_115, List.forall_mem_cons.mpr ⟨r_X17_used_116, List.forall_mem_cons.mpr ⟨r_X17_used_117, List.forall_mem_cons.mpr ⟨r_X17_used_120, List.forall_mem_cons.mpr ⟨r_X17_used_123, List.forall_mem_cons.mpr ⟨r_X17_used_124, List.forall_mem_cons.mpr ⟨r_X17_used_127, List.forall_mem_cons.mpr ⟨r_X17_used_129, List.forall_mem_cons.mpr ⟨r_X17_used_140, List.forall_mem_cons.mpr ⟨r_X17_used_141, List.forall_mem_cons.mpr ⟨r_X17_used_142, List.forall_mem_cons.mpr ⟨r_X17_used_145, List.forall_mem_cons.mpr ⟨r_X17_used_146, List.forall_mem_cons.mpr ⟨r_X17_used_147, List.forall_mem_cons.mpr ⟨r_X17_used_150, List.forall_mem_cons.mpr ⟨r_X17_used_151, List.forall_mem_cons.mpr ⟨r_X17_used_153, List.forall_mem_cons.mpr ⟨r_X17_used_156, List.forall_mem_cons.mpr ⟨r_X17_used_158, List.forall_mem_cons.mpr ⟨r_X17_used_161, fun _ h => absurd h List.not_mem_nil⟩⟩⟩⟩⟩⟩⟩⟩⟩⟩⟩⟩⟩⟩⟩⟩⟩⟩⟩⟩⟩⟩⟩⟩
set_option maxRecDepth 100000 in
theorem tq_X17_used_1 : tf_X17_used_1 = tl_X17_used_1.map (fun q => (q.1, stepOf NPf md_X17_used q.2)) := rfl
theorem ro_X17_used : RowsOK (md_X17_used, tl_X17_used) tf_X17_used := rows_app ⟨tq_X17_used_0, ok_X17_used_0⟩ (⟨tq_X17_used_1, ok_X17_used_1⟩)
theorem r_X8_sortAt_0 : IOK WB AD SR FW TB md_X8_sortAt 0 (.aload_n 0, 0, 0, 0, []) := io_plain (by decide +kernel) rfl
theorem r_X8_sortAt_1 : IOK WB AD SR FW TB md_X8_sortAt 1 (.getfield 9, 9, 1, 2, []) := io_get (by decide +kernel) fo_RX8_9
theorem r_X8_sortAt_4 : IOK WB AD SR FW TB md_X8_sortAt 4 (.iload_n 1, 0, 0, 0, []) := io_plain (by decide +kernel) rfl
theorem r_X8_sortAt_5 : IOK WB AD SR FW TB md_X8_sortAt 5 (.iaload, 0, 0, 0, []) := io_plain (by decide +kernel) rfl
theorem r_X8_sortAt_6 : IOK WB AD SR FW TB md_X8_sortAt 6 (.istore_n 2, 0, 0, 0, []) := io_plain (by decide +kernel) rfl
theorem r_X8_sortAt_7 : IOK WB AD SR FW TB md_X8_sortAt 7 (.iload_n 2, 0, 0, 0, []) := io_plain (by decide +kernel) rfl
theorem r_X8_sortAt_8 : IOK WB AD SR FW TB md_X8_sortAt 8 (.bipush 32, 0, 0, 0, []) := io_plain (by decide +kernel) rfl
theorem r_X8_sortAt_10 : IOK WB AD SR FW TB md_X8_sortAt 10 (.if_icmp .ge 16, 0, 0, 0, []) := io_plain (by decide +kernel) rfl
theorem r_X8_sortAt_26 : IOK WB AD SR FW TB md_X8_sortAt 26 (.iload_n 2, 0, 0, 0, []) := io_plain (by decide +kernel) rfl
theorem r_X8_sortAt_27 : IOK WB AD SR FW TB md_X8_sortAt 27 (.invokestatic 84, 16, 11, 0, []) := io_stat (by decide +kernel) tb_X10_operatorIn (Or.inr ⟨rfl, rfl, "RuleForge", List.mem_of_getElem? (i := 0) rfl⟩) st_X10_operatorIn pr_X10_operatorIn
theorem r_X8_sortAt_30 : IOK WB AD SR FW TB md_X8_sortAt 30 (.istore_n 3, 0, 0, 0, []) := io_plain (by decide +kernel) rfl
theorem r_X8_sortAt_31 : IOK WB AD SR FW TB md_X8_sortAt 31 (.iload_n 2, 0, 0, 0, []) := io_plain (by decide +kernel) rfl
theorem r_X8_sortAt_32 : IOK WB AD SR FW TB md_X8_sortAt 32 (.bipush 8, 0, 0, 0, []) := io_plain (by decide +kernel) rfl
theorem r_X8_sortAt_34 : IOK WB AD SR FW TB md_X8_sortAt 34 (.irem, 0, 0, 0, []) := io_plain (by decide +kernel) rfl
theorem r_X8_sortAt_35 : IOK WB AD SR FW TB md_X8_sortAt 35 (.istore 4, 0, 0, 0, []) := io_plain (by decide +kernel) rfl
theorem r_X8_sortAt_37 : IOK WB AD SR FW TB md_X8_sortAt 37 (.iload_n 1, 0, 0, 0, []) := io_plain (by decide +kernel) rfl
theorem r_X8_sortAt_38 : IOK WB AD SR FW TB md_X8_sortAt 38 (.iconst 1, 0, 0, 0, []) := io_plain (by decide +kernel) rfl
theorem r_X8_sortAt_39 : IOK WB AD SR FW TB md_X8_sortAt 39 (.iadd, 0, 0, 0, []) := io_plain (by decide +kernel) rfl
theorem r_X8_sortAt_40 : IOK WB AD SR FW TB md_X8_sortAt 40 (.istore 5, 0, 0, 0, []) := io_plain (by decide +kernel) rfl
theorem r_X8_sortAt_42 : IOK WB AD SR FW TB md_X8_sortAt 42 (.iload 4, 0, 0, 0, []) := io_plain (by decide +kernel) rfl
theorem r_X8_sortAt_44 : IOK WB AD SR FW TB md_X8_sortAt 44 (.ifCond .le 12, 0, 0, 0, []) := io_plain (by decide +kernel) rfl
theorem r_X8_sortAt_56 : IOK WB AD SR FW TB md_X8_sortAt 56 (.iconst (-1), 0, 0, 0, []) := io_plain (by decide +kernel) rfl
theorem r_X8_sortAt_57 : IOK WB AD SR FW TB md_X8_sortAt 57 (.istore 6, 0, 0, 0, []) := io_plain (by decide +kernel) rfl
theorem r_X8_sortAt_59 : IOK WB AD SR FW TB md_X8_sortAt 59 (.iload 4, 0, 0, 0, []) := io_plain (by decide +kernel) rfl
theorem r_X8_sortAt_61 : IOK WB AD SR FW TB md_X8_sortAt 61 (.ifCond .le 12, 0, 0, 0, []) := io_plain (by decide +kernel) rfl
theorem r_X8_sortAt_73 : IOK WB AD SR FW TB md_X8_sortAt 73 (.iload 5, 0, 0, 0, []) := io_plain (by decide +kernel) rfl
theorem r_X8_sortAt_75 : IOK WB AD SR FW TB md_X8_sortAt 75 (.istore 5, 0, 0, 0, []) := io_plain (by decide +kernel) rfl
theorem r_X8_sortAt_77 : IOK WB AD SR FW TB md_X8_sortAt 77 (.iload 4, 0, 0, 0, []) := io_plain (by decide +kernel) rfl
theorem r_X8_sortAt_79 : IOK WB AD SR FW TB md_X8_sortAt 79 (.iconst 1, 0, 0, 0, []) := io_plain (by decide +kernel) rfl
theorem r_X8_sortAt_80 : IOK WB AD SR FW TB md_X8_sortAt 80 (.if_icmp .le 12, 0, 0, 0, []) := io_plain (by decide +kernel) rfl
theorem r_X8_sortAt_92 : IOK WB AD SR FW TB md_X8_sortAt 92 (.iconst (-1), 0, 0, 0, []) := io_plain (by decide +kernel) rfl
theorem r_X8_sortAt_93 : IOK WB AD SR FW TB md_X8_sortAt 93 (.istore 7, 0, 0, 0, []) := io_plain (by decide +kernel) rfl
theorem r_X8_sortAt_95 : IOK WB AD SR FW TB md_X8_sortAt 95 (.iload 4, 0, 0, 0, []) := io_plain (by decide +kernel) rfl
theorem r_X8_sortAt_97 : IOK WB AD SR FW TB md_X8_sortAt 97 (.iconst 1, 0, 0, 0, []) := io_plain (by decide +kernel) rfl
theorem r_X8_sortAt_98 : IOK WB AD SR FW TB md_X8_sortAt 98 (.if_icmp .le 12, 0, 0, 0, []) := io_plain (by decide +kernel) rfl
theorem r_X8_sortAt_110 : IOK WB AD SR FW TB md_X8_sortAt 110 (.iload 5, 0, 0, 0, []) := io_plain (by decide +kernel) rfl
theorem r_X8_sortAt_112 : IOK WB AD SR FW TB md_X8_sortAt 112 (.istore 5, 0, 0, 0, []) := io_plain (by decide +kernel) rfl
theorem r_X8_sortAt_114 : IOK WB AD SR FW TB md_X8_sortAt 114 (.aload_n 0, 0, 0, 0, []) := io_plain (by decide +kernel) rfl
theorem r_X8_sortAt_115 : IOK WB AD SR FW TB md_X8_sortAt 115 (.getfield 37, 9, 0, 2, []) := io_get (by decide +kernel) fo_RX8_37
theorem r_X8_sortAt_118 : IOK WB AD SR FW TB md_X8_sortAt 118 (.getfield 90, 8, 5, 2, []) := io_get (by decide +kernel) fo_RX8_90
theorem r_X8_sortAt_121 : IOK WB AD SR FW TB md_X8_sortAt 121 (.iload_n 3, 0, 0, 0, []) := io_plain (by decide +kernel) rfl
theorem r_X8_sortAt_122 : IOK WB AD SR FW TB md_X8_sortAt 122 (.iaload, 0, 0, 0, []) := io_plain (by decide +kernel) rfl
theorem r_X8_sortAt_123 : IOK WB AD SR FW TB md_X8_sortAt 123 (.iconst 2, 0, 0, 0, []) := io_plain (by decide +kernel) rfl
theorem r_X8_sortAt_124 : IOK WB AD SR FW TB md_X8_sortAt 124 (.if_icmp .ge 32, 0, 0, 0, []) := io_plain (by decide +kernel) rfl
theorem r_X8_sortAt_127 : IOK WB AD SR FW TB md_X8_sortAt 127 (.aload_n 0, 0, 0, 0, []) := io_plain (by decide +kernel) rfl
theorem r_X8_sortAt_128 : IOK WB AD SR FW TB md_X8_sortAt 128 (.getfield 37, 9, 0, 2, []) := io_get (by decide +kernel) fo_RX8_37
theorem r_X8_sortAt_131 : IOK WB AD SR FW TB md_X8_sortAt 131 (.iload_n 3, 0, 0, 0, []) := io_plain (by decide +kernel) rfl
theorem r_X8_sortAt_132 : IOK WB AD SR FW TB md_X8_sortAt 132 (.iload 6, 0, 0, 0, []) := io_plain (by decide +kernel) rfl
theorem r_X8_sortAt_134 : IOK WB AD SR FW TB md_X8_sortAt 134 (.iload 7, 0, 0, 0, []) := io_plain (by decide +kernel) rfl
theorem r_X8_sortAt_136 : IOK WB AD SR FW TB md_X8_sortAt 136 (.iload 4, 0, 0, 0, []) := io_plain (by decide +kernel) rfl
theorem r_X8_sortAt_138 : IOK WB AD SR FW TB md_X8_sortAt 138 (.iconst 2, 0, 0, 0, []) := io_plain (by decide +kernel) rfl
theorem r_X8_sortAt_139 : IOK WB AD SR FW TB md_X8_sortAt 139 (.if_icmp .le 12, 0, 0, 0, []) := io_plain (by decide +kernel) rfl
theorem r_X8_sortAt_151 : IOK WB AD SR FW TB md_X8_sortAt 151 (.iconst (-1), 0, 0, 0, []) := io_plain (by decide +kernel) rfl
theorem r_X8_sortAt_152 : IOK WB AD SR FW TB md_X8_sortAt 152 (.invokevirtual 93, 48, 8, 0, []) := io_virt (by decide +kernel) tb_X7_resultOf (Or.inl (wb_4 55 rfl rfl)) in_X7_resultOf se_X7_resultOf ⟨_, rfl, rfl⟩ pr_X7_resultOf (by decide)
theorem r_X8_sortAt_155 : IOK WB AD SR FW TB md_X8_sortAt 155 (.ireturn, 0, 0, 0, []) := io_plain (by decide +kernel) rfl
set_option maxRecDepth 100000 in
theorem ok_X8_sortAt_0 : ∀ q ∈ tl_X8_sortAt, IOK WB AD SR FW TB md_X8_sortAt q.1 q.2 := fun _ h => absurd h List.not_mem_nil
set_option maxRecDepth 100000 in
theorem tq_X8_sortAt_0 : tf_X8_sortAt = tl_X8_sortAt.map (fun q => (q.1, stepOf NPf md_X8_sortAt q.2)) := rfl
theorem ro_X8_sortAt : RowsOK (md_X8_sortAt, tl_X8_sortAt) tf_X8_sortAt := ⟨tq_X8_sortAt_0, ok_X8_sortAt_0⟩
theorem r_X17_isLast_0 : IOK WB AD SR FW TB md_X17_isLast 0 (.aload_n 0, 0, 0, 0, []) := io_plain (by decide +kernel) rfl
theorem r_X17_isLast_1 : IOK WB AD SR FW TB md_X17_isLast 1 (.getfield 230, 18, 40, 0, []) := io_get (by decide +kernel) fo_RX17_230
theorem r_X17_isLast_4 : IOK WB AD SR FW TB md_X17_isLast 4 (.istore_n 1, 0, 0, 0, []) := io_plain (by decide +kernel) rfl
theorem r_X17_isLast_5 : IOK WB AD SR FW TB md_X17_isLast 5 (.iload_n 1, 0, 0, 0, []) := io_plain (by decide +kernel) rfl
theorem r_X17_isLast_6 : IOK WB AD SR FW TB md_X17_isLast 6 (.ifCond .le 19, 0, 0, 0, []) := io_plain (by decide +kernel) rfl
theorem r_X17_isLast_25 : IOK WB AD SR FW TB md_X17_isLast 25 (.iload_n 1, 0, 0, 0, []) := io_plain (by decide +kernel) rfl
theorem r_X17_isLast_26 : IOK WB AD SR FW TB md_X17_isLast 26 (.ifCond .le 17, 0, 0, 0, []) := io_plain (by decide +kernel) rfl
theorem r_X17_isLast_43 : IOK WB AD SR FW TB md_X17_isLast 43 (.iconst 0, 0, 0, 0, []) := io_plain (by decide +kernel) rfl
theorem r_X17_isLast_44 : IOK WB AD SR FW TB md_X17_isLast 44 (.istore_n 2, 0, 0, 0, []) := io_plain (by decide +kernel) rfl
theorem r_X17_isLast_45 : IOK WB AD SR FW TB md_X17_isLast 45 (.iload_n 2, 0, 0, 0, []) := io_plain (by decide +kernel) rfl
theorem r_X17_isLast_46 : IOK WB AD SR FW TB md_X17_isLast 46 (.ifCond .ne 11, 0, 0, 0, []) := io_plain (by decide +kernel) rfl
theorem r_X17_isLast_49 : IOK WB AD SR FW TB md_X17_isLast 49 (.iload_n 1, 0, 0, 0, []) := io_plain (by decide +kernel) rfl
theorem r_X17_isLast_50 : IOK WB AD SR FW TB md_X17_isLast 50 (.aload_n 0, 0, 0, 0, []) := io_plain (by decide +kernel) rfl
theorem r_X17_isLast_51 : IOK WB AD SR FW TB md_X17_isLast 51 (.getfield 236, 18, 39, 0, []) := io_get (by decide +kernel) fo_RX17_236
theorem r_X17_isLast_54 : IOK WB AD SR FW TB md_X17_isLast 54 (.if_icmp .ne 16, 0, 0, 0, []) := io_plain (by decide +kernel) rfl
theorem r_X17_isLast_70 : IOK WB AD SR FW TB md_X17_isLast 70 (.aload_n 0, 0, 0, 0, []) := io_plain (by decide +kernel) rfl
theorem r_X17_isLast_71 : IOK WB AD SR FW TB md_X17_isLast 71 (.dup, 0, 0, 0, []) := io_plain (by decide +kernel) rfl
theorem r_X17_isLast_72 : IOK WB AD SR FW TB md_X17_isLast 72 (.getfield 230, 18, 40, 0, []) := io_get (by decide +kernel) fo_RX17_230
theorem r_X17_isLast_75 : IOK WB AD SR FW TB md_X17_isLast 75 (.aload_n 0, 0, 0, 0, []) := io_plain (by decide +kernel) rfl
theorem r_X17_isLast_76 : IOK WB AD SR FW TB md_X17_isLast 76 (.getfield 230, 18, 40, 0, []) := io_get (by decide +kernel) fo_RX17_230
theorem r_X17_isLast_79 : IOK WB AD SR FW TB md_X17_isLast 79 (.aload_n 0, 0, 0, 0, []) := io_plain (by decide +kernel) rfl
theorem r_X17_isLast_80 : IOK WB AD SR FW TB md_X17_isLast 80 (.getfield 236, 18, 39, 0, []) := io_get (by decide +kernel) fo_RX17_236
theorem r_X17_isLast_83 : IOK WB AD SR FW TB md_X17_isLast 83 (.if_icmp .ge 7, 0, 0, 0, []) := io_plain (by decide +kernel) rfl
theorem r_X17_isLast_86 : IOK WB AD SR FW TB md_X17_isLast 86 (.iconst 1, 0, 0, 0, []) := io_plain (by decide +kernel) rfl
theorem r_X17_isLast_87 : IOK WB AD SR FW TB md_X17_isLast 87 (.goto 4, 0, 0, 0, []) := io_plain (by decide +kernel) rfl
theorem r_X17_isLast_91 : IOK WB AD SR FW TB md_X17_isLast 91 (.iadd, 0, 0, 0, []) := io_plain (by decide +kernel) rfl
theorem r_X17_isLast_92 : IOK WB AD SR FW TB md_X17_isLast 92 (.putfield 230, 18, 40, 0, []) := io_put (by decide +kernel) fo_RX17_230 po_RX17_0_18_40_0
theorem r_X17_isLast_95 : IOK WB AD SR FW TB md_X17_isLast 95 (.iconst 3, 0, 0, 0, []) := io_plain (by decide +kernel) rfl
theorem r_X17_isLast_96 : IOK WB AD SR FW TB md_X17_isLast 96 (.aload_n 0, 0, 0, 0, []) := io_plain (by decide +kernel) rfl
theorem r_X17_isLast_97 : IOK WB AD SR FW TB md_X17_isLast 97 (.getfield 230, 18, 40, 0, []) := io_get (by decide +kernel) fo_RX17_230
theorem r_X17_isLast_100 : IOK WB AD SR FW TB md_X17_isLast 100 (.imul, 0, 0, 0, []) := io_plain (by decide +kernel) rfl
theorem r_X17_isLast_101 : IOK WB AD SR FW TB md_X17_isLast 101 (.aload_n 0, 0, 0, 0, []) := io_plain (by decide +kernel) rfl
theorem r_X17_isLast_102 : IOK WB AD SR FW TB md_X17_isLast 102 (.getfield 102, 18, 41, 2, []) := io_get (by decide +kernel) fo_RX17_102
theorem r_X17_isLast_105 : IOK WB AD SR FW TB md_X17_isLast 105 (.arraylength, 0, 0, 0, []) := io_plain (by decide +kernel) rfl
theorem r_X17_isLast_106 : IOK WB AD SR FW TB md_X17_isLast 106 (.if_icmp .le 49, 0, 0, 0, []) := io_plain (by decide +kernel) rfl
theorem r_X17_isLast_155 : IOK WB AD SR FW TB md_X17_isLast 155 (.iconst 3, 0, 0, 0, []) := io_plain (by decide +kernel) rfl
theorem r_X17_isLast_156 : IOK WB AD SR FW TB md_X17_isLast 156 (.aload_n 0, 0, 0, 0, []) := io_plain (by decide +kernel) rfl
theorem r_X17_isLast_157 : IOK WB AD SR FW TB md_X17_isLast 157 (.getfield 230, 18, 40, 0, []) := io_get (by decide +kernel) fo_RX17_230
theorem r_X17_isLast_160 : IOK WB AD SR FW TB md_X17_isLast 160 (.imul, 0, 0, 0, []) := io_plain (by decide +kernel) rfl
theorem r_X17_isLast_161 : IOK WB AD SR FW TB md_X17_isLast 161 (.iconst 1, 0, 0, 0, []) := io_plain (by decide +kernel) rfl
theorem r_X17_isLast_162 : IOK WB AD SR FW TB md_X17_isLast 162 (.isub, 0, 0, 0, []) := io_plain (by decide +kernel) rfl
theorem r_X17_isLast_163 : IOK WB AD SR FW TB md_X17_isLast 163 (.istore_n 3, 0, 0, 0, []) := io_plain (by decide +kernel) rfl
theorem r_X17_isLast_164 : IOK WB AD SR FW TB md_X17_isLast 164 (.iload_n 3, 0, 0, 0, []) := io_plain (by decide +kernel) rfl
theorem r_X17_isLast_165 : IOK WB AD SR FW TB md_X17_isLast 165 (.iconst 3, 0, 0, 0, []) := io_plain (by decide +kernel) rfl
theorem r_X17_isLast_166 : IOK WB AD SR FW TB md_X17_isLast 166 (.iload_n 1, 0, 0, 0, []) := io_plain (by decide +kernel) rfl
theorem r_X17_isLast_167 : IOK WB AD SR FW TB md_X17_isLast 167 (.imul, 0, 0, 0, []) := io_plain (by decide +kernel) rfl
theorem r_X17_isLast_168 : IOK WB AD SR FW TB md_X17_isLast 168 (.iconst 3, 0, 0, 0, []) := io_plain (by decide +kernel) rfl
theorem r_X17_isLast_169 : IOK WB AD SR FW TB md_X17_isLast 169 (.iadd, 0, 0, 0, []) := io_plain (by decide +kernel) rfl
theorem r_X17_isLast_170 : IOK WB AD SR FW TB md_X17_isLast 170 (.if_icmp .lt 23, 0, 0, 0, []) := io_plain (by decide +kernel) rfl
theorem r_X17_isLast_193 : IOK WB AD SR FW TB md_X17_isLast 193 (.iconst 0, 0, 0, 0, []) := io_plain (by decide +kernel) rfl
theorem r_X17_isLast_194 : IOK WB AD SR FW TB md_X17_isLast 194 (.istore_n 3, 0, 0, 0, []) := io_plain (by decide +kernel) rfl
theorem r_X17_isLast_195 : IOK WB AD SR FW TB md_X17_isLast 195 (.iload_n 3, 0, 0, 0, []) := io_plain (by decide +kernel) rfl
theorem r_X17_isLast_196 : IOK WB AD SR FW TB md_X17_isLast 196 (.aload_n 0, 0, 0, 0, []) := io_plain (by decide +kernel) rfl
theorem r_X17_isLast_197 : IOK WB AD SR FW TB md_X17_isLast 197 (.getfield 227, 18, 38, 0, []) := io_get (by decide +kernel) fo_RX17_227
theorem r_X17_isLast_200 : IOK WB AD SR FW TB md_X17_isLast 200 (.if_icmp .ge 30, 0, 0, 0, []) := io_plain (by decide +kernel) rfl
theorem r_X17_isLast_230 : IOK WB AD SR FW TB md_X17_isLast 230 (.aload_n 0, 0, 0, 0, []) := io_plain (by decide +kernel) rfl
theorem r_X17_isLast_231 : IOK WB AD SR FW TB md_X17_isLast 231 (.getfield 227, 18, 38, 0, []) := io_get (by decide +kernel) fo_RX17_227
theorem r_X17_isLast_234 : IOK WB AD SR FW TB md_X17_isLast 234 (.ifCond .ne 7, 0, 0, 0, []) := io_plain (by decide +kernel) rfl
theorem r_X17_isLast_237 : IOK WB AD SR FW TB md_X17_isLast 237 (.iconst 1, 0, 0, 0, []) := io_plain (by decide +kernel) rfl
theorem r_X17_isLast_238 : IOK WB AD SR FW TB md_X17_isLast 238 (.goto 4, 0, 0, 0, []) := io_plain (by decide +kernel) rfl
theorem r_X17_isLast_242 : IOK WB AD SR FW TB md_X17_isLast 242 (.ireturn, 0, 0, 0, []) := io_plain (by decide +kernel) rfl
set_option maxRecDepth 100000 in
theorem ok_X17_isLast_0 : ∀ q ∈ tl_X17_isLast_0, IOK WB AD SR FW TB md_X17_isLast q.1 q.2 := List.forall_mem_cons.mpr ⟨r_X17_isLast_0, List.forall_mem_cons.mpr ⟨r_X17_isLast_1, List.forall_mem_cons.mpr ⟨r_X17_isLast_4, List.forall_mem_cons.mpr ⟨r_X17_isLast_5, List.forall_mem_cons.mpr ⟨r_X17_isLast_6, List.forall_mem_cons.mpr ⟨r_X17_isLast_25, List.forall_mem_cons.mpr ⟨r_X17_isLast_26, List.forall_mem_cons.mpr ⟨r_X17_isLast_43, List.forall_mem_cons.mpr ⟨r_X17_isLast_44, List.forall_mem_cons.mpr ⟨r_X17_isLast_45, List.forall_mem_cons.mpr ⟨r_X17_isLast_46, List.forall_mem_cons.mpr ⟨r_X17_isLast_49, List.forall_mem_cons.mpr ⟨r_X17_isLast_50, List.forall_mem_cons.mpr ⟨r_X17_isLast_51, List.forall_mem_cons.mpr ⟨r_X17_isLast_54, List.forall_mem_cons.mpr ⟨r_X17_isLast_70, List.forall_mem_cons.mpr ⟨r_X17_isLast_71, List.forall_mem_cons.mpr ⟨r_X17_isLast_72, List.forall_mem_cons.mpr ⟨r_X17_isLast_75, List.forall_mem_cons.mpr ⟨r_X17_isLast_76, List.forall_mem_cons.mpr ⟨r_X17_isLast_79, List.forall_mem_cons.mpr ⟨r_X17_isLast_80, List.forall_mem_cons.mpr ⟨r_X17_isLast_83, List.forall_mem_cons.mpr ⟨r_X17_isLast_86, List.forall_mem_cons.mpr ⟨r_X17_isLast_87, List.forall_mem_cons.mpr ⟨r_X17_isLast_91, List.forall_mem_cons.mpr ⟨r_X17_isLast_92, List.forall_mem_cons.mpr ⟨r_X17_isLast_95, List.forall_mem_cons.mpr ⟨r_X17_isLast_96, List.forall_mem_cons.mpr ⟨r_X17_isLast_97, List.forall_mem_cons.mpr ⟨r_X17_isLast_100, List.forall_mem_cons.mpr ⟨r_X17_isLast_101, List.forall_mem_cons.mpr ⟨r_X17_isLast_102, List.forall_mem_cons.mpr ⟨r_X17_isLast_105, List.forall_mem_cons.mpr ⟨r_X17_isLast_106, List.forall_mem_cons.mpr ⟨r_X17_isLast_155, List.forall_mem_cons.mpr ⟨r_X17_isLast_156, List.forall_mem_cons.mpr ⟨r_X17_isLast_157, List.forall_mem_cons.mpr ⟨r_X17_isLast_160, List.forall_mem_cons.mpr ⟨r_X17_isLast_161, fun _ h => absurd h List.not_mem_nil⟩⟩⟩⟩⟩⟩⟩⟩⟩⟩⟩⟩⟩⟩⟩⟩⟩⟩⟩⟩⟩⟩⟩⟩⟩⟩⟩⟩⟩⟩⟩⟩⟩⟩⟩⟩⟩⟩⟩⟩
set_option maxRecDepth 100000 in
theorem tq_X17_isLast_0 : tf_X17_isLast_0 = tl_X17_isLast_0.map (fun q => (q.1, stepOf NPf md_X17_isLast q.2)) := rfl
set_option maxRecDepth 100000 in
theorem ok_X17_isLast_1 : ∀ q ∈ tl_X17_isLast_1, IOK WB AD SR FW TB md_X17_isLast q.1 q.2 := List.forall_mem_cons.mpr ⟨r_X17_isLast_162, List.forall_mem_cons.mpr ⟨r_X17_isLast_163, List.forall_mem_cons.mpr ⟨r_X17_isLast_164, List.forall_mem_cons.mpr ⟨r_X17_isLast_165, List.forall_mem_cons.mpr ⟨r_X17_isLast_166, List.forall_mem_cons.mpr ⟨r_X17_isLast_167, List.forall_mem_cons.mpr ⟨r_X17_isLast_168, List.forall_mem_cons.mpr ⟨r_X17_isLast_169, List.forall_mem_cons.mpr ⟨r_X17_isLast_170, List.forall_mem_cons.mpr ⟨r_X17_isLast_193, List.forall_mem_cons.mpr ⟨r_X17_isLast_194, List.forall_mem_cons.mpr ⟨r_X17_isLast_195, List.forall_mem_cons.mpr ⟨r_X17_isLast_196, List.forall_mem_cons.mpr ⟨r_X17_isLast_197, List.forall_mem_cons.mpr ⟨r_X17_isLast_200, List.forall_mem_cons.mpr ⟨r_X17_isLast_230, List.forall_mem_cons.mpr ⟨r_X17_isLast_231, List.forall_mem_cons.mpr ⟨r_X17_isLast_234, List.forall_mem_cons.mpr ⟨r_X17_isLast_237, List.forall_mem_cons.mpr ⟨r_X17_isLast_238, List.forall_mem_cons.mpr ⟨r_X17_isLast_242, fun _ h => absurd h List.not_mem_nil⟩⟩⟩⟩⟩⟩⟩⟩⟩⟩⟩⟩⟩⟩⟩⟩⟩⟩⟩⟩⟩
set_option maxRecDepth 100000 in
theorem tq_X17_isLast_1 : tf_X17_isLast_1 = tl_X17_isLast_1.map (fun q => (q.1, stepOf NPf md_X17_isLast q.2)) := rfl
theorem ro_X17_isLast : RowsOK (md_X17_isLast, tl_X17_isLast) tf_X17_isLast := rows_app ⟨tq_X17_isLast_0, ok_X17_isLast_0⟩ (⟨tq_X17_isLast_1, ok_X17_isLast_1⟩)
theorem r_X4_add_0 : IOK WB AD SR FW TB md_X4_add 0 (.aload_n 0, 0, 0, 0, []) := io_plain (by decide +kernel) rfl
theorem r_X4_add_1 : IOK WB AD SR FW TB md_X4_add 1 (.getfield 56, 5, 2, 0, []) := io_get (by decide +kernel) fo_RX4_56
theorem r_X4_add_4 : IOK WB AD SR FW TB md_X4_add 4 (.sipush 256, 0, 0, 0, []) := io_plain (by decide +kernel) rfl
theorem r_X4_add_7 : IOK WB AD SR FW TB md_X4_add 7 (.if_icmp .lt 5, 0, 0, 0, []) := io_plain (by decide +kernel) rfl
theorem r_X4_add_12 : IOK WB AD SR FW TB md_X4_add 12 (.aload_n 0, 0, 0, 0, []) := io_plain (by decide +kernel) rfl
theorem r_X4_add_13 : IOK WB AD SR FW TB md_X4_add 13 (.getfield 11, 5, 3, 2, []) := io_get (by decide +kernel) fo_RX4_11
theorem r_X4_add_16 : IOK WB AD SR FW TB md_X4_add 16 (.aload_n 0, 0, 0, 0, []) := io_plain (by decide +kernel) rfl
theorem r_X4_add_17 : IOK WB AD SR FW TB md_X4_add 17 (.getfield 56, 5, 2, 0, []) := io_get (by decide +kernel) fo_RX4_56
theorem r_X4_add_20 : IOK WB AD SR FW TB md_X4_add 20 (.iload_n 1, 0, 0, 0, []) := io_plain (by decide +kernel) rfl
theorem r_X4_add_21 : IOK WB AD SR FW TB md_X4_add 21 (.iastore, 0, 0, 0, []) := io_plain (by decide +kernel) rfl
theorem r_X4_add_22 : IOK WB AD SR FW TB md_X4_add 22 (.aload_n 0, 0, 0, 0, []) := io_plain (by decide +kernel) rfl
theorem r_X4_add_23 : IOK WB AD SR FW TB md_X4_add 23 (.getfield 15, 5, 4, 2, []) := io_get (by decide +kernel) fo_RX4_15
theorem r_X4_add_26 : IOK WB AD SR FW TB md_X4_add 26 (.aload_n 0, 0, 0, 0, []) := io_plain (by decide +kernel) rfl
theorem r_X4_add_27 : IOK WB AD SR FW TB md_X4_add 27 (.getfield 56, 5, 2, 0, []) := io_get (by decide +kernel) fo_RX4_56
theorem r_X4_add_30 : IOK WB AD SR FW TB md_X4_add 30 (.iload_n 2, 0, 0, 0, []) := io_plain (by decide +kernel) rfl
theorem r_X4_add_31 : IOK WB AD SR FW TB md_X4_add 31 (.iastore, 0, 0, 0, []) := io_plain (by decide +kernel) rfl
theorem r_X4_add_32 : IOK WB AD SR FW TB md_X4_add 32 (.aload_n 0, 0, 0, 0, []) := io_plain (by decide +kernel) rfl
theorem r_X4_add_33 : IOK WB AD SR FW TB md_X4_add 33 (.getfield 18, 5, 5, 2, []) := io_get (by decide +kernel) fo_RX4_18
theorem r_X4_add_36 : IOK WB AD SR FW TB md_X4_add 36 (.aload_n 0, 0, 0, 0, []) := io_plain (by decide +kernel) rfl
theorem r_X4_add_37 : IOK WB AD SR FW TB md_X4_add 37 (.getfield 56, 5, 2, 0, []) := io_get (by decide +kernel) fo_RX4_56
theorem r_X4_add_40 : IOK WB AD SR FW TB md_X4_add 40 (.aload_n 0, 0, 0, 0, []) := io_plain (by decide +kernel) rfl
theorem r_X4_add_41 : IOK WB AD SR FW TB md_X4_add 41 (.getfield 45, 5, 0, 2, []) := io_get (by decide +kernel) fo_RX4_45
theorem r_X4_add_44 : IOK WB AD SR FW TB md_X4_add 44 (.getfield 60, 9, 1, 2, []) := io_get (by decide +kernel) fo_RX4_60
theorem r_X4_add_47 : IOK WB AD SR FW TB md_X4_add 47 (.iload_n 1, 0, 0, 0, []) := io_plain (by decide +kernel) rfl
theorem r_X4_add_48 : IOK WB AD SR FW TB md_X4_add 48 (.iaload, 0, 0, 0, []) := io_plain (by decide +kernel) rfl
theorem r_X4_add_49 : IOK WB AD SR FW TB md_X4_add 49 (.bipush 8, 0, 0, 0, []) := io_plain (by decide +kernel) rfl
theorem r_X4_add_51 : IOK WB AD SR FW TB md_X4_add 51 (.idiv, 0, 0, 0, []) := io_plain (by decide +kernel) rfl
theorem r_X4_add_52 : IOK WB AD SR FW TB md_X4_add 52 (.iconst 4, 0, 0, 0, []) := io_plain (by decide +kernel) rfl
theorem r_X4_add_53 : IOK WB AD SR FW TB md_X4_add 53 (.isub, 0, 0, 0, []) := io_plain (by decide +kernel) rfl
theorem r_X4_add_54 : IOK WB AD SR FW TB md_X4_add 54 (.iastore, 0, 0, 0, []) := io_plain (by decide +kernel) rfl
theorem r_X4_add_55 : IOK WB AD SR FW TB md_X4_add 55 (.aload_n 0, 0, 0, 0, []) := io_plain (by decide +kernel) rfl
theorem r_X4_add_56 : IOK WB AD SR FW TB md_X4_add 56 (.getfield 21, 5, 6, 2, []) := io_get (by decide +kernel) fo_RX4_21
theorem r_X4_add_59 : IOK WB AD SR FW TB md_X4_add 59 (.aload_n 0, 0, 0, 0, []) := io_plain (by decide +kernel) rfl
theorem r_X4_add_60 : IOK WB AD SR FW TB md_X4_add 60 (.getfield 56, 5, 2, 0, []) := io_get (by decide +kernel) fo_RX4_56
theorem r_X4_add_63 : IOK WB AD SR FW TB md_X4_add 63 (.iload_n 3, 0, 0, 0, []) := io_plain (by decide +kernel) rfl
theorem r_X4_add_64 : IOK WB AD SR FW TB md_X4_add 64 (.iastore, 0, 0, 0, []) := io_plain (by decide +kernel) rfl
theorem r_X4_add_65 : IOK WB AD SR FW TB md_X4_add 65 (.aload_n 0, 0, 0, 0, []) := io_plain (by decide +kernel) rfl
theorem r_X4_add_66 : IOK WB AD SR FW TB md_X4_add 66 (.getfield 24, 5, 7, 2, []) := io_get (by decide +kernel) fo_RX4_24
theorem r_X4_add_69 : IOK WB AD SR FW TB md_X4_add 69 (.aload_n 0, 0, 0, 0, []) := io_plain (by decide +kernel) rfl
theorem r_X4_add_70 : IOK WB AD SR FW TB md_X4_add 70 (.getfield 56, 5, 2, 0, []) := io_get (by decide +kernel) fo_RX4_56
theorem r_X4_add_73 : IOK WB AD SR FW TB md_X4_add 73 (.iload 4, 0, 0, 0, []) := io_plain (by decide +kernel) rfl
theorem r_X4_add_75 : IOK WB AD SR FW TB md_X4_add 75 (.iastore, 0, 0, 0, []) := io_plain (by decide +kernel) rfl
theorem r_X4_add_76 : IOK WB AD SR FW TB md_X4_add 76 (.aload_n 0, 0, 0, 0, []) := io_plain (by decide +kernel) rfl
theorem r_X4_add_77 : IOK WB AD SR FW TB md_X4_add 77 (.dup, 0, 0, 0, []) := io_plain (by decide +kernel) rfl
theorem r_X4_add_78 : IOK WB AD SR FW TB md_X4_add 78 (.getfield 56, 5, 2, 0, []) := io_get (by decide +kernel) fo_RX4_56
theorem r_X4_add_81 : IOK WB AD SR FW TB md_X4_add 81 (.iconst 1, 0, 0, 0, []) := io_plain (by decide +kernel) rfl
theorem r_X4_add_82 : IOK WB AD SR FW TB md_X4_add 82 (.iadd, 0, 0, 0, []) := io_plain (by decide +kernel) rfl
theorem r_X4_add_83 : IOK WB AD SR FW TB md_X4_add 83 (.putfield 56, 5, 2, 0, []) := io_put (by decide +kernel) fo_RX4_56 po_RX4_0_5_2_0
theorem r_X4_add_86 : IOK WB AD SR FW TB md_X4_add 86 (.aload_n 0, 0, 0, 0, []) := io_plain (by decide +kernel) rfl
theorem r_X4_add_87 : IOK WB AD SR FW TB md_X4_add 87 (.getfield 56, 5, 2, 0, []) := io_get (by decide +kernel) fo_RX4_56
theorem r_X4_add_90 : IOK WB AD SR FW TB md_X4_add 90 (.iconst 1, 0, 0, 0, []) := io_plain (by decide +kernel) rfl
theorem r_X4_add_91 : IOK WB AD SR FW TB md_X4_add 91 (.isub, 0, 0, 0, []) := io_plain (by decide +kernel) rfl
theorem r_X4_add_92 : IOK WB AD SR FW TB md_X4_add 92 (.ireturn, 0, 0, 0, []) := io_plain (by decide +kernel) rfl
set_option maxRecDepth 100000 in
theorem ok_X4_add_0 : ∀ q ∈ tl_X4_add, IOK WB AD SR FW TB md_X4_add q.1 q.2 := fun _ h => absurd h List.not_mem_nil
set_option maxRecDepth 100000 in
theorem tq_X4_add_0 : tf_X4_add = tl_X4_add.map (fun q => (q.1, stepOf NPf md_X4_add q.2)) := rfl
theorem ro_X4_add : RowsOK (md_X4_add, tl_X4_add) tf_X4_add := ⟨tq_X4_add_0, ok_X4_add_0⟩
theorem r_X4_addParts_0 : IOK WB AD SR FW TB md_X4_addParts 0 (.aload_n 0, 0, 0, 0, []) := io_plain (by decide +kernel) rfl
theorem r_X4_addParts_1 : IOK WB AD SR FW TB md_X4_addParts 1 (.getfield 56, 5, 2, 0, []) := io_get (by decide +kernel) fo_RX4_56
theorem r_X4_addParts_4 : IOK WB AD SR FW TB md_X4_addParts 4 (.istore_n 1, 0, 0, 0, []) := io_plain (by decide +kernel) rfl
theorem r_X4_addParts_5 : IOK WB AD SR FW TB md_X4_addParts 5 (.iconst 0, 0, 0, 0, []) := io_plain (by decide +kernel) rfl
theorem r_X4_addParts_6 : IOK WB AD SR FW TB md_X4_addParts 6 (.istore_n 2, 0, 0, 0, []) := io_plain (by decide +kernel) rfl
theorem r_X4_addParts_7 : IOK WB AD SR FW TB md_X4_addParts 7 (.iload_n 2, 0, 0, 0, []) := io_plain (by decide +kernel) rfl
theorem r_X4_addParts_8 : IOK WB AD SR FW TB md_X4_addParts 8 (.iload_n 1, 0, 0, 0, []) := io_plain (by decide +kernel) rfl
theorem r_X4_addParts_9 : IOK WB AD SR FW TB md_X4_addParts 9 (.if_icmp .ge 220, 0, 0, 0, []) := io_plain (by decide +kernel) rfl
theorem r_X4_addParts_12 : IOK WB AD SR FW TB md_X4_addParts 12 (.aload_n 0, 0, 0, 0, []) := io_plain (by decide +kernel) rfl
theorem r_X4_addParts_13 : IOK WB AD SR FW TB md_X4_addParts 13 (.getfield 18, 5, 5, 2, []) := io_get (by decide +kernel) fo_RX4_18
theorem r_X4_addParts_16 : IOK WB AD SR FW TB md_X4_addParts 16 (.iload_n 2, 0, 0, 0, []) := io_plain (by decide +kernel) rfl
theorem r_X4_addParts_17 : IOK WB AD SR FW TB md_X4_addParts 17 (.iaload, 0, 0, 0, []) := io_plain (by decide +kernel) rfl
theorem r_X4_addParts_18 : IOK WB AD SR FW TB md_X4_addParts 18 (.ifCond .ge 7, 0, 0, 0, []) := io_plain (by decide +kernel) rfl
theorem r_X4_addParts_25 : IOK WB AD SR FW TB md_X4_addParts 25 (.aload_n 0, 0, 0, 0, []) := io_plain (by decide +kernel) rfl
theorem r_X4_addParts_26 : IOK WB AD SR FW TB md_X4_addParts 26 (.getfield 55, 5, 1, 2, []) := io_get (by decide +kernel) fo_RX4_55
theorem r_X4_addParts_29 : IOK WB AD SR FW TB md_X4_addParts 29 (.getfield 71, 8, 5, 2, []) := io_get (by decide +kernel) fo_RX4_71
theorem r_X4_addParts_32 : IOK WB AD SR FW TB md_X4_addParts 32 (.aload_n 0, 0, 0, 0, []) := io_plain (by decide +kernel) rfl
theorem r_X4_addParts_33 : IOK WB AD SR FW TB md_X4_addParts 33 (.getfield 18, 5, 5, 2, []) := io_get (by decide +kernel) fo_RX4_18
theorem r_X4_addParts_36 : IOK WB AD SR FW TB md_X4_addParts 36 (.iload_n 2, 0, 0, 0, []) := io_plain (by decide +kernel) rfl
theorem r_X4_addParts_37 : IOK WB AD SR FW TB md_X4_addParts 37 (.iaload, 0, 0, 0, []) := io_plain (by decide +kernel) rfl
theorem r_X4_addParts_38 : IOK WB AD SR FW TB md_X4_addParts 38 (.iaload, 0, 0, 0, []) := io_plain (by decide +kernel) rfl
theorem r_X4_addParts_39 : IOK WB AD SR FW TB md_X4_addParts 39 (.istore_n 3, 0, 0, 0, []) := io_plain (by decide +kernel) rfl
theorem r_X4_addParts_40 : IOK WB AD SR FW TB md_X4_addParts 40 (.iconst 1, 0, 0, 0, []) := io_plain (by decide +kernel) rfl
theorem r_X4_addParts_41 : IOK WB AD SR FW TB md_X4_addParts 41 (.istore 4, 0, 0, 0, []) := io_plain (by decide +kernel) rfl
theorem r_X4_addParts_43 : IOK WB AD SR FW TB md_X4_addParts 43 (.iload 4, 0, 0, 0, []) := io_plain (by decide +kernel) rfl
theorem r_X4_addParts_45 : IOK WB AD SR FW TB md_X4_addParts 45 (.aload_n 0, 0, 0, 0, []) := io_plain (by decide +kernel) rfl
theorem r_X4_addParts_46 : IOK WB AD SR FW TB md_X4_addParts 46 (.getfield 24, 5, 7, 2, []) := io_get (by decide +kernel) fo_RX4_24
theorem r_X4_addParts_49 : IOK WB AD SR FW TB md_X4_addParts 49 (.iload_n 2, 0, 0, 0, []) := io_plain (by decide +kernel) rfl
theorem r_X4_addParts_50 : IOK WB AD SR FW TB md_X4_addParts 50 (.iaload, 0, 0, 0, []) := io_plain (by decide +kernel) rfl
theorem r_X4_addParts_51 : IOK WB AD SR FW TB md_X4_addParts 51 (.if_icmp .ge 152, 0, 0, 0, []) := io_plain (by decide +kernel) rfl
theorem r_X4_addParts_203 : IOK WB AD SR FW TB md_X4_addParts 203 (.aload_n 0, 0, 0, 0, []) := io_plain (by decide +kernel) rfl
theorem r_X4_addParts_204 : IOK WB AD SR FW TB md_X4_addParts 204 (.getfield 39, 5, 13, 2, []) := io_get (by decide +kernel) fo_RX4_39
theorem r_X4_addParts_207 : IOK WB AD SR FW TB md_X4_addParts 207 (.iload_n 2, 0, 0, 0, []) := io_plain (by decide +kernel) rfl
theorem r_X4_addParts_208 : IOK WB AD SR FW TB md_X4_addParts 208 (.bipush 32, 0, 0, 0, []) := io_plain (by decide +kernel) rfl
theorem r_X4_addParts_210 : IOK WB AD SR FW TB md_X4_addParts 210 (.imul, 0, 0, 0, []) := io_plain (by decide +kernel) rfl
theorem r_X4_addParts_211 : IOK WB AD SR FW TB md_X4_addParts 211 (.aload_n 0, 0, 0, 0, []) := io_plain (by decide +kernel) rfl
theorem r_X4_addParts_212 : IOK WB AD SR FW TB md_X4_addParts 212 (.getfield 24, 5, 7, 2, []) := io_get (by decide +kernel) fo_RX4_24
theorem r_X4_addParts_215 : IOK WB AD SR FW TB md_X4_addParts 215 (.iload_n 2, 0, 0, 0, []) := io_plain (by decide +kernel) rfl
theorem r_X4_addParts_216 : IOK WB AD SR FW TB md_X4_addParts 216 (.iaload, 0, 0, 0, []) := io_plain (by decide +kernel) rfl
theorem r_X4_addParts_217 : IOK WB AD SR FW TB md_X4_addParts 217 (.bipush 32, 0, 0, 0, []) := io_plain (by decide +kernel) rfl
theorem r_X4_addParts_219 : IOK WB AD SR FW TB md_X4_addParts 219 (.irem, 0, 0, 0, []) := io_plain (by decide +kernel) rfl
theorem r_X4_addParts_220 : IOK WB AD SR FW TB md_X4_addParts 220 (.iadd, 0, 0, 0, []) := io_plain (by decide +kernel) rfl
theorem r_X4_addParts_221 : IOK WB AD SR FW TB md_X4_addParts 221 (.iload_n 2, 0, 0, 0, []) := io_plain (by decide +kernel) rfl
theorem r_X4_addParts_222 : IOK WB AD SR FW TB md_X4_addParts 222 (.iastore, 0, 0, 0, []) := io_plain (by decide +kernel) rfl
theorem r_X4_addParts_223 : IOK WB AD SR FW TB md_X4_addParts 223 (.iinc 2 1, 0, 0, 0, []) := io_plain (by decide +kernel) rfl
theorem r_X4_addParts_226 : IOK WB AD SR FW TB md_X4_addParts 226 (.goto (-219), 0, 0, 0, []) := io_plain (by decide +kernel) rfl
theorem r_X4_addParts_229 : IOK WB AD SR FW TB md_X4_addParts 229 (.return_, 0, 0, 0, []) := io_void (by decide +kernel) rfl
set_option maxRecDepth 100000 in
theorem ok_X4_addParts_0 : ∀ q ∈ tl_X4_addParts, IOK WB AD SR FW TB md_X4_addParts q.1 q.2 := fun _ h => absurd h List.not_mem_nil
set_option maxRecDepth 100000 in
theorem tq_X4_addParts_0 : tf_X4_addParts = tl_X4_addParts.map (fun q => (q.1, stepOf NPf md_X4_addParts q.2)) := rfl
theorem ro_X4_addParts : RowsOK (md_X4_addParts, tl_X4_addParts) tf_X4_addParts := ⟨tq_X4_addParts_0, ok_X4_addParts_0⟩
theorem r_X3_meet_0 : IOK WB AD SR FW TB md_X3_meet 0 (.aload_n 0, 0, 0, 0, []) := io_plain (by decide +kernel) rfl
theorem r_X3_meet_1 : IOK WB AD SR FW TB md_X3_meet 1 (.getfield 20, 4, 6, 2, []) := io_get (by decide +kernel) fo_RX3_20
theorem r_X3_meet_4 : IOK WB AD SR FW TB md_X3_meet 4 (.iload_n 1, 0, 0, 0, []) := io_plain (by decide +kernel) rfl
theorem r_X3_meet_5 : IOK WB AD SR FW TB md_X3_meet 5 (.iaload, 0, 0, 0, []) := io_plain (by decide +kernel) rfl
theorem r_X3_meet_6 : IOK WB AD SR FW TB md_X3_meet 6 (.istore_n 2, 0, 0, 0, []) := io_plain (by decide +kernel) rfl
theorem r_X3_meet_7 : IOK WB AD SR FW TB md_X3_meet 7 (.aload_n 0, 0, 0, 0, []) := io_plain (by decide +kernel) rfl
theorem r_X3_meet_8 : IOK WB AD SR FW TB md_X3_meet 8 (.getfield 23, 4, 7, 2, []) := io_get (by decide +kernel) fo_RX3_23
theorem r_X3_meet_11 : IOK WB AD SR FW TB md_X3_meet 11 (.iload_n 1, 0, 0, 0, []) := io_plain (by decide +kernel) rfl
theorem r_X3_meet_12 : IOK WB AD SR FW TB md_X3_meet 12 (.iaload, 0, 0, 0, []) := io_plain (by decide +kernel) rfl
theorem r_X3_meet_13 : IOK WB AD SR FW TB md_X3_meet 13 (.istore_n 3, 0, 0, 0, []) := io_plain (by decide +kernel) rfl
theorem r_X3_meet_14 : IOK WB AD SR FW TB md_X3_meet 14 (.aload_n 0, 0, 0, 0, []) := io_plain (by decide +kernel) rfl
theorem r_X3_meet_15 : IOK WB AD SR FW TB md_X3_meet 15 (.getfield 38, 4, 0, 2, []) := io_get (by decide +kernel) fo_RX3_38
theorem r_X3_meet_18 : IOK WB AD SR FW TB md_X3_meet 18 (.getfield 140, 9, 1, 2, []) := io_get (by decide +kernel) fo_RX3_140
theorem r_X3_meet_21 : IOK WB AD SR FW TB md_X3_meet 21 (.iload_n 2, 0, 0, 0, []) := io_plain (by decide +kernel) rfl
theorem r_X3_meet_22 : IOK WB AD SR FW TB md_X3_meet 22 (.iaload, 0, 0, 0, []) := io_plain (by decide +kernel) rfl
theorem r_X3_meet_23 : IOK WB AD SR FW TB md_X3_meet 23 (.istore 4, 0, 0, 0, []) := io_plain (by decide +kernel) rfl
theorem r_X3_meet_25 : IOK WB AD SR FW TB md_X3_meet 25 (.iload 4, 0, 0, 0, []) := io_plain (by decide +kernel) rfl
theorem r_X3_meet_27 : IOK WB AD SR FW TB md_X3_meet 27 (.invokestatic 166, 16, 11, 0, []) := io_stat (by decide +kernel) tb_X10_operatorIn (Or.inr ⟨rfl, rfl, "RuleForge", List.mem_of_getElem? (i := 5) rfl⟩) st_X10_operatorIn pr_X10_operatorIn
theorem r_X3_meet_30 : IOK WB AD SR FW TB md_X3_meet 30 (.istore 5, 0, 0, 0, []) := io_plain (by decide +kernel) rfl
theorem r_X3_meet_32 : IOK WB AD SR FW TB md_X3_meet 32 (.aload_n 0, 0, 0, 0, []) := io_plain (by decide +kernel) rfl
theorem r_X3_meet_33 : IOK WB AD SR FW TB md_X3_meet 33 (.getfield 48, 4, 1, 2, []) := io_get (by decide +kernel) fo_RX3_48
theorem r_X3_meet_36 : IOK WB AD SR FW TB md_X3_meet 36 (.getfield 169, 8, 5, 2, []) := io_get (by decide +kernel) fo_RX3_169
theorem r_X3_meet_39 : IOK WB AD SR FW TB md_X3_meet 39 (.iload 5, 0, 0, 0, []) := io_plain (by decide +kernel) rfl
theorem r_X3_meet_41 : IOK WB AD SR FW TB md_X3_meet 41 (.iaload, 0, 0, 0, []) := io_plain (by decide +kernel) rfl
theorem r_X3_meet_42 : IOK WB AD SR FW TB md_X3_meet 42 (.iconst 2, 0, 0, 0, []) := io_plain (by decide +kernel) rfl
theorem r_X3_meet_43 : IOK WB AD SR FW TB md_X3_meet 43 (.if_icmp .lt 64, 0, 0, 0, []) := io_plain (by decide +kernel) rfl
theorem r_X3_meet_107 : IOK WB AD SR FW TB md_X3_meet 107 (.aload_n 0, 0, 0, 0, []) := io_plain (by decide +kernel) rfl
theorem r_X3_meet_108 : IOK WB AD SR FW TB md_X3_meet 108 (.getfield 52, 4, 2, 2, []) := io_get (by decide +kernel) fo_RX3_52
theorem r_X3_meet_111 : IOK WB AD SR FW TB md_X3_meet 111 (.getfield 175, 5, 5, 2, []) := io_get (by decide +kernel) fo_RX3_175
theorem r_X3_meet_114 : IOK WB AD SR FW TB md_X3_meet 114 (.iload_n 3, 0, 0, 0, []) := io_plain (by decide +kernel) rfl
theorem r_X3_meet_115 : IOK WB AD SR FW TB md_X3_meet 115 (.iaload, 0, 0, 0, []) := io_plain (by decide +kernel) rfl
theorem r_X3_meet_116 : IOK WB AD SR FW TB md_X3_meet 116 (.iload 5, 0, 0, 0, []) := io_plain (by decide +kernel) rfl
theorem r_X3_meet_118 : IOK WB AD SR FW TB md_X3_meet 118 (.if_icmp .eq 4, 0, 0, 0, []) := io_plain (by decide +kernel) rfl
theorem r_X3_meet_122 : IOK WB AD SR FW TB md_X3_meet 122 (.aload_n 0, 0, 0, 0, []) := io_plain (by decide +kernel) rfl
theorem r_X3_meet_123 : IOK WB AD SR FW TB md_X3_meet 123 (.iload_n 1, 0, 0, 0, []) := io_plain (by decide +kernel) rfl
theorem r_X3_meet_124 : IOK WB AD SR FW TB md_X3_meet 124 (.iload 4, 0, 0, 0, []) := io_plain (by decide +kernel) rfl
theorem r_X3_meet_126 : IOK WB AD SR FW TB md_X3_meet 126 (.bipush 8, 0, 0, 0, []) := io_plain (by decide +kernel) rfl
theorem r_X3_meet_128 : IOK WB AD SR FW TB md_X3_meet 128 (.irem, 0, 0, 0, []) := io_plain (by decide +kernel) rfl
theorem r_X3_meet_129 : IOK WB AD SR FW TB md_X3_meet 129 (.iconst 0, 0, 0, 0, []) := io_plain (by decide +kernel) rfl
theorem r_X3_meet_130 : IOK WB AD SR FW TB md_X3_meet 130 (.invokevirtual 178, 45, 4, 0, []) := io_virt (by decide +kernel) tb_X3_meetArguments (Or.inl (wb_4 106 rfl rfl)) in_X3_meetArguments se_X3_meetArguments ⟨_, rfl, rfl⟩ pr_X3_meetArguments (by decide)
theorem r_X3_meet_133 : IOK WB AD SR FW TB md_X3_meet 133 (.aload_n 0, 0, 0, 0, []) := io_plain (by decide +kernel) rfl
theorem r_X3_meet_134 : IOK WB AD SR FW TB md_X3_meet 134 (.getfield 48, 4, 1, 2, []) := io_get (by decide +kernel) fo_RX3_48
theorem r_X3_meet_137 : IOK WB AD SR FW TB md_X3_meet 137 (.getfield 169, 8, 5, 2, []) := io_get (by decide +kernel) fo_RX3_169
theorem r_X3_meet_140 : IOK WB AD SR FW TB md_X3_meet 140 (.iload 5, 0, 0, 0, []) := io_plain (by decide +kernel) rfl
theorem r_X3_meet_142 : IOK WB AD SR FW TB md_X3_meet 142 (.iaload, 0, 0, 0, []) := io_plain (by decide +kernel) rfl
theorem r_X3_meet_143 : IOK WB AD SR FW TB md_X3_meet 143 (.iconst 1, 0, 0, 0, []) := io_plain (by decide +kernel) rfl
theorem r_X3_meet_144 : IOK WB AD SR FW TB md_X3_meet 144 (.if_icmp .ne 35, 0, 0, 0, []) := io_plain (by decide +kernel) rfl
theorem r_X3_meet_179 : IOK WB AD SR FW TB md_X3_meet 179 (.return_, 0, 0, 0, []) := io_void (by decide +kernel) rfl
set_option maxRecDepth 100000 in
theorem ok_X3_meet_0 : ∀ q ∈ tl_X3_meet, IOK WB AD SR FW TB md_X3_meet q.1 q.2 := fun _ h => absurd h List.not_mem_nil
set_option maxRecDepth 100000 in
theorem tq_X3_meet_0 : tf_X3_meet = tl_X3_meet.map (fun q => (q.1, stepOf NPf md_X3_meet q.2)) := rfl
theorem ro_X3_meet : RowsOK (md_X3_meet, tl_X3_meet) tf_X3_meet := ⟨tq_X3_meet_0, ok_X3_meet_0⟩
theorem r_X8_settle_0 : IOK WB AD SR FW TB md_X8_settle 0 (.iload_n 2, 0, 0, 0, []) := io_plain (by decide +kernel) rfl
theorem r_X8_settle_1 : IOK WB AD SR FW TB md_X8_settle 1 (.iload_n 1, 0, 0, 0, []) := io_plain (by decide +kernel) rfl
theorem r_X8_settle_2 : IOK WB AD SR FW TB md_X8_settle 2 (.if_icmp .ge 10, 0, 0, 0, []) := io_plain (by decide +kernel) rfl
theorem r_X8_settle_12 : IOK WB AD SR FW TB md_X8_settle 12 (.aload_n 0, 0, 0, 0, []) := io_plain (by decide +kernel) rfl
theorem r_X8_settle_13 : IOK WB AD SR FW TB md_X8_settle 13 (.iload_n 2, 0, 0, 0, []) := io_plain (by decide +kernel) rfl
theorem r_X8_settle_14 : IOK WB AD SR FW TB md_X8_settle 14 (.invokevirtual 57, 1, 9, 0, []) := io_virt (by decide +kernel) tb_X8_end (Or.inl (wb_3 170 rfl rfl)) in_X8_end se_X8_end ⟨_, rfl, rfl⟩ pr_X8_end (by decide)
theorem r_X8_settle_17 : IOK WB AD SR FW TB md_X8_settle 17 (.iload_n 2, 0, 0, 0, []) := io_plain (by decide +kernel) rfl
theorem r_X8_settle_18 : IOK WB AD SR FW TB md_X8_settle 18 (.isub, 0, 0, 0, []) := io_plain (by decide +kernel) rfl
theorem r_X8_settle_19 : IOK WB AD SR FW TB md_X8_settle 19 (.istore_n 3, 0, 0, 0, []) := io_plain (by decide +kernel) rfl
theorem r_X8_settle_20 : IOK WB AD SR FW TB md_X8_settle 20 (.aload_n 0, 0, 0, 0, []) := io_plain (by decide +kernel) rfl
theorem r_X8_settle_21 : IOK WB AD SR FW TB md_X8_settle 21 (.getfield 9, 9, 1, 2, []) := io_get (by decide +kernel) fo_RX8_9
theorem r_X8_settle_24 : IOK WB AD SR FW TB md_X8_settle 24 (.iload_n 2, 0, 0, 0, []) := io_plain (by decide +kernel) rfl
theorem r_X8_settle_25 : IOK WB AD SR FW TB md_X8_settle 25 (.aload_n 0, 0, 0, 0, []) := io_plain (by decide +kernel) rfl
theorem r_X8_settle_26 : IOK WB AD SR FW TB md_X8_settle 26 (.getfield 9, 9, 1, 2, []) := io_get (by decide +kernel) fo_RX8_9
theorem r_X8_settle_29 : IOK WB AD SR FW TB md_X8_settle 29 (.iload_n 1, 0, 0, 0, []) := io_plain (by decide +kernel) rfl
theorem r_X8_settle_30 : IOK WB AD SR FW TB md_X8_settle 30 (.iload_n 3, 0, 0, 0, []) := io_plain (by decide +kernel) rfl
theorem r_X8_settle_31 : IOK WB AD SR FW TB md_X8_settle 31 (.invokestatic 61, 1000, 0, 0, []) := io_copy (by decide +kernel) (wb_3 184 rfl rfl) cp_1 cp_2 cp_3
theorem r_X8_settle_34 : IOK WB AD SR FW TB md_X8_settle 34 (.aload_n 0, 0, 0, 0, []) := io_plain (by decide +kernel) rfl
theorem r_X8_settle_35 : IOK WB AD SR FW TB md_X8_settle 35 (.iload_n 1, 0, 0, 0, []) := io_plain (by decide +kernel) rfl
theorem r_X8_settle_36 : IOK WB AD SR FW TB md_X8_settle 36 (.iload_n 3, 0, 0, 0, []) := io_plain (by decide +kernel) rfl
theorem r_X8_settle_37 : IOK WB AD SR FW TB md_X8_settle 37 (.iadd, 0, 0, 0, []) := io_plain (by decide +kernel) rfl
theorem r_X8_settle_38 : IOK WB AD SR FW TB md_X8_settle 38 (.putfield 15, 9, 2, 0, []) := io_put (by decide +kernel) fo_RX8_15 po_RX8_0_9_2_0
theorem r_X8_settle_41 : IOK WB AD SR FW TB md_X8_settle 41 (.iload_n 1, 0, 0, 0, []) := io_plain (by decide +kernel) rfl
theorem r_X8_settle_42 : IOK WB AD SR FW TB md_X8_settle 42 (.ireturn, 0, 0, 0, []) := io_plain (by decide +kernel) rfl
set_option maxRecDepth 100000 in
theorem ok_X8_settle_0 : ∀ q ∈ tl_X8_settle, IOK WB AD SR FW TB md_X8_settle q.1 q.2 := fun _ h => absurd h List.not_mem_nil
set_option maxRecDepth 100000 in
theorem tq_X8_settle_0 : tf_X8_settle = tl_X8_settle.map (fun q => (q.1, stepOf NPf md_X8_settle q.2)) := rfl
theorem ro_X8_settle : RowsOK (md_X8_settle, tl_X8_settle) tf_X8_settle := ⟨tq_X8_settle_0, ok_X8_settle_0⟩
theorem r_X17_isEnough_0 : IOK WB AD SR FW TB md_X17_isEnough 0 (.iload_n 1, 0, 0, 0, []) := io_plain (by decide +kernel) rfl
theorem r_X17_isEnough_1 : IOK WB AD SR FW TB md_X17_isEnough 1 (.ifCond .ne 8, 0, 0, 0, []) := io_plain (by decide +kernel) rfl
theorem r_X17_isEnough_4 : IOK WB AD SR FW TB md_X17_isEnough 4 (.aload_n 0, 0, 0, 0, []) := io_plain (by decide +kernel) rfl
theorem r_X17_isEnough_5 : IOK WB AD SR FW TB md_X17_isEnough 5 (.invokevirtual 185, 30, 18, 0, []) := io_virt (by decide +kernel) tb_X17_isLast (Or.inl (wb_8 176 rfl rfl)) in_X17_isLast se_X17_isLast ⟨_, rfl, rfl⟩ pr_X17_isLast (by decide)
theorem r_X17_isEnough_8 : IOK WB AD SR FW TB md_X17_isEnough 8 (.ireturn, 0, 0, 0, []) := io_plain (by decide +kernel) rfl
theorem r_X17_isEnough_9 : IOK WB AD SR FW TB md_X17_isEnough 9 (.iload_n 1, 0, 0, 0, []) := io_plain (by decide +kernel) rfl
theorem r_X17_isEnough_10 : IOK WB AD SR FW TB md_X17_isEnough 10 (.iconst 1, 0, 0, 0, []) := io_plain (by decide +kernel) rfl
theorem r_X17_isEnough_11 : IOK WB AD SR FW TB md_X17_isEnough 11 (.isub, 0, 0, 0, []) := io_plain (by decide +kernel) rfl
theorem r_X17_isEnough_12 : IOK WB AD SR FW TB md_X17_isEnough 12 (.istore_n 2, 0, 0, 0, []) := io_plain (by decide +kernel) rfl
theorem r_X17_isEnough_13 : IOK WB AD SR FW TB md_X17_isEnough 13 (.aload_n 0, 0, 0, 0, []) := io_plain (by decide +kernel) rfl
theorem r_X17_isEnough_14 : IOK WB AD SR FW TB md_X17_isEnough 14 (.getfield 84, 18, 32, 2, []) := io_get (by decide +kernel) fo_RX17_84
theorem r_X17_isEnough_17 : IOK WB AD SR FW TB md_X17_isEnough 17 (.iload_n 2, 0, 0, 0, []) := io_plain (by decide +kernel) rfl
theorem r_X17_isEnough_18 : IOK WB AD SR FW TB md_X17_isEnough 18 (.aaload, 0, 0, 0, []) := io_plain (by decide +kernel) rfl
theorem r_X17_isEnough_19 : IOK WB AD SR FW TB md_X17_isEnough 19 (.astore_n 3, 0, 0, 0, []) := io_plain (by decide +kernel) rfl
theorem r_X17_isEnough_20 : IOK WB AD SR FW TB md_X17_isEnough 20 (.aload_n 0, 0, 0, 0, []) := io_plain (by decide +kernel) rfl
theorem r_X17_isEnough_21 : IOK WB AD SR FW TB md_X17_isEnough 21 (.getfield 87, 18, 33, 2, []) := io_get (by decide +kernel) fo_RX17_87
theorem r_X17_isEnough_24 : IOK WB AD SR FW TB md_X17_isEnough 24 (.iload_n 2, 0, 0, 0, []) := io_plain (by decide +kernel) rfl
theorem r_X17_isEnough_25 : IOK WB AD SR FW TB md_X17_isEnough 25 (.aaload, 0, 0, 0, []) := io_plain (by decide +kernel) rfl
theorem r_X17_isEnough_26 : IOK WB AD SR FW TB md_X17_isEnough 26 (.astore 4, 0, 0, 0, []) := io_plain (by decide +kernel) rfl
theorem r_X17_isEnough_28 : IOK WB AD SR FW TB md_X17_isEnough 28 (.aload_n 0, 0, 0, 0, []) := io_plain (by decide +kernel) rfl
theorem r_X17_isEnough_29 : IOK WB AD SR FW TB md_X17_isEnough 29 (.getfield 90, 18, 34, 2, []) := io_get (by decide +kernel) fo_RX17_90
theorem r_X17_isEnough_32 : IOK WB AD SR FW TB md_X17_isEnough 32 (.iload_n 2, 0, 0, 0, []) := io_plain (by decide +kernel) rfl
theorem r_X17_isEnough_33 : IOK WB AD SR FW TB md_X17_isEnough 33 (.iaload, 0, 0, 0, []) := io_plain (by decide +kernel) rfl
theorem r_X17_isEnough_34 : IOK WB AD SR FW TB md_X17_isEnough 34 (.istore 5, 0, 0, 0, []) := io_plain (by decide +kernel) rfl
theorem r_X17_isEnough_36 : IOK WB AD SR FW TB md_X17_isEnough 36 (.aload_n 0, 0, 0, 0, []) := io_plain (by decide +kernel) rfl
theorem r_X17_isEnough_37 : IOK WB AD SR FW TB md_X17_isEnough 37 (.getfield 93, 18, 35, 2, []) := io_get (by decide +kernel) fo_RX17_93
theorem r_X17_isEnough_40 : IOK WB AD SR FW TB md_X17_isEnough 40 (.iload_n 2, 0, 0, 0, []) := io_plain (by decide +kernel) rfl
theorem r_X17_isEnough_41 : IOK WB AD SR FW TB md_X17_isEnough 41 (.iaload, 0, 0, 0, []) := io_plain (by decide +kernel) rfl
theorem r_X17_isEnough_42 : IOK WB AD SR FW TB md_X17_isEnough 42 (.istore 6, 0, 0, 0, []) := io_plain (by decide +kernel) rfl
theorem r_X17_isEnough_44 : IOK WB AD SR FW TB md_X17_isEnough 44 (.iload 5, 0, 0, 0, []) := io_plain (by decide +kernel) rfl
theorem r_X17_isEnough_46 : IOK WB AD SR FW TB md_X17_isEnough 46 (.iconst (-1), 0, 0, 0, []) := io_plain (by decide +kernel) rfl
theorem r_X17_isEnough_47 : IOK WB AD SR FW TB md_X17_isEnough 47 (.if_icmp .eq 18, 0, 0, 0, []) := io_plain (by decide +kernel) rfl
theorem r_X17_isEnough_65 : IOK WB AD SR FW TB md_X17_isEnough 65 (.aload_n 3, 0, 0, 0, []) := io_plain (by decide +kernel) rfl
theorem r_X17_isEnough_66 : IOK WB AD SR FW TB md_X17_isEnough 66 (.invokevirtual 171, 13, 17, 0, []) := io_virt (by decide +kernel) tb_X16_isVariable (Or.inl (wb_8 78 rfl rfl)) in_X16_isVariable se_X16_isVariable ⟨_, rfl, rfl⟩ pr_X16_isVariable (by decide)
theorem r_X17_isEnough_69 : IOK WB AD SR FW TB md_X17_isEnough 69 (.ifCond .eq 17, 0, 0, 0, []) := io_plain (by decide +kernel) rfl
theorem r_X17_isEnough_86 : IOK WB AD SR FW TB md_X17_isEnough 86 (.aload_n 0, 0, 0, 0, []) := io_plain (by decide +kernel) rfl
theorem r_X17_isEnough_87 : IOK WB AD SR FW TB md_X17_isEnough 87 (.iload_n 2, 0, 0, 0, []) := io_plain (by decide +kernel) rfl
theorem r_X17_isEnough_88 : IOK WB AD SR FW TB md_X17_isEnough 88 (.aload_n 3, 0, 0, 0, []) := io_plain (by decide +kernel) rfl
theorem r_X17_isEnough_89 : IOK WB AD SR FW TB md_X17_isEnough 89 (.aload 4, 0, 0, 0, []) := io_plain (by decide +kernel) rfl
theorem r_X17_isEnough_91 : IOK WB AD SR FW TB md_X17_isEnough 91 (.invokevirtual 196, 46, 18, 0, []) := io_virt (by decide +kernel) tb_X17_isBeneath (Or.inl (wb_8 222 rfl rfl)) in_X17_isBeneath se_X17_isBeneath ⟨_, rfl, rfl⟩ pr_X17_isBeneath (by decide)
theorem r_X17_isEnough_94 : IOK WB AD SR FW TB md_X17_isEnough 94 (.istore 7, 0, 0, 0, []) := io_plain (by decide +kernel) rfl
theorem r_X17_isEnough_96 : IOK WB AD SR FW TB md_X17_isEnough 96 (.aload_n 0, 0, 0, 0, []) := io_plain (by decide +kernel) rfl
theorem r_X17_isEnough_97 : IOK WB AD SR FW TB md_X17_isEnough 97 (.iload_n 2, 0, 0, 0, []) := io_plain (by decide +kernel) rfl
theorem r_X17_isEnough_98 : IOK WB AD SR FW TB md_X17_isEnough 98 (.aload_n 3, 0, 0, 0, []) := io_plain (by decide +kernel) rfl
theorem r_X17_isEnough_99 : IOK WB AD SR FW TB md_X17_isEnough 99 (.aload 4, 0, 0, 0, []) := io_plain (by decide +kernel) rfl
theorem r_X17_isEnough_101 : IOK WB AD SR FW TB md_X17_isEnough 101 (.iload 5, 0, 0, 0, []) := io_plain (by decide +kernel) rfl
theorem r_X17_isEnough_103 : IOK WB AD SR FW TB md_X17_isEnough 103 (.iload 6, 0, 0, 0, []) := io_plain (by decide +kernel) rfl
theorem r_X17_isEnough_105 : IOK WB AD SR FW TB md_X17_isEnough 105 (.invokevirtual 200, 41, 18, 0, []) := io_virt (by decide +kernel) tb_X17_lays (Or.inl (wb_8 168 rfl rfl)) in_X17_lays se_X17_lays ⟨_, rfl, rfl⟩ pr_X17_lays (by decide)
theorem r_X17_isEnough_108 : IOK WB AD SR FW TB md_X17_isEnough 108 (.iload 7, 0, 0, 0, []) := io_plain (by decide +kernel) rfl
theorem r_X17_isEnough_110 : IOK WB AD SR FW TB md_X17_isEnough 110 (.ireturn, 0, 0, 0, []) := io_plain (by decide +kernel) rfl
set_option maxRecDepth 100000 in
theorem ok_X17_isEnough_0 : ∀ q ∈ tl_X17_isEnough_0, IOK WB AD SR FW TB md_X17_isEnough q.1 q.2 := List.forall_mem_cons.mpr ⟨r_X17_isEnough_0, List.forall_mem_cons.mpr ⟨r_X17_isEnough_1, List.forall_mem_cons.mpr ⟨r_X17_isEnough_4, List.forall_mem_cons.mpr ⟨r_X17_isEnough_5, List.forall_mem_cons.mpr ⟨r_X17_isEnough_8, List.forall_mem_cons.mpr ⟨r_X17_isEnough_9, List.forall_mem_cons.mpr ⟨r_X17_isEnough_10, List.forall_mem_cons.mpr ⟨r_X17_isEnough_11, List.forall_mem_cons.mpr ⟨r_X17_isEnough_12, List.forall_mem_cons.mpr ⟨r_X17_isEnough_13, List.forall_mem_cons.mpr ⟨r_X17_isEnough_14, List.forall_mem_cons.mpr ⟨r_X17_isEnough_17, List.forall_mem_cons.mpr ⟨r_X17_isEnough_18, List.forall_mem_cons.mpr ⟨r_X17_isEnough_19, List.forall_mem_cons.mpr ⟨r_X17_isEnough_20, List.forall_mem_cons.mpr ⟨r_X17_isEnough_21, List.forall_mem_cons.mpr ⟨r_X17_isEnough_24, List.forall_mem_cons.mpr ⟨r_X17_isEnough_25, List.forall_mem_cons.mpr ⟨r_X17_isEnough_26, List.forall_mem_cons.mpr ⟨r_X17_isEnough_28, List.forall_mem_cons.mpr ⟨r_X17_isEnough_29, List.forall_mem_cons.mpr ⟨r_X17_isEnough_32, List.forall_mem_cons.mpr ⟨r_X17_isEnough_33, List.forall_mem_cons.mpr ⟨r_X17_isEnough_34, List.forall_mem_cons.mpr ⟨r_X17_isEnough_36, List.forall_mem_cons.mpr ⟨r_X17_isEnough_37, List.forall_mem_cons.mpr ⟨r_X17_isEnough_40, List.forall_mem_cons.mpr ⟨r_X17_isEnough_41, List.forall_mem_cons.mpr ⟨r_X17_isEnough_42, List.forall_mem_cons.mpr ⟨r_X17_isEnough_44, List.forall_mem_cons.mpr ⟨r_X17_isEnough_46, List.forall_mem_cons.mpr ⟨r_X17_isEnough_47, List.forall_mem_cons.mpr ⟨r_X17_isEnough_65, List.forall_mem_cons.mpr ⟨r_X17_isEnough_66, List.forall_mem_cons.mpr ⟨r_X17_isEnough_69, List.forall_mem_cons.mpr ⟨r_X17_isEnough_86, List.forall_mem_cons.mpr ⟨r_X17_isEnough_87, List.forall_mem_cons.mpr ⟨r_X17_isEnough_88, List.forall_mem_cons.mpr ⟨r_X17_isEnough_89, List.forall_mem_cons.mpr ⟨r_X17_isEnough_91, fun _ h => absurd h List.not_mem_nil⟩⟩⟩⟩⟩⟩⟩⟩⟩⟩⟩⟩⟩⟩⟩⟩⟩⟩⟩⟩⟩⟩⟩⟩⟩⟩⟩⟩⟩⟩⟩⟩⟩⟩⟩⟩⟩⟩⟩⟩
set_option maxRecDepth 100000 in
theorem tq_X17_isEnough_0 : tf_X17_isEnough_0 = tl_X17_isEnough_0.map (fun q => (q.1, stepOf NPf md_X17_isEnough q.2)) := rfl
set_option maxRecDepth 100000 in
theorem ok_X17_isEnough_1 : ∀ q ∈ tl_X17_isEnough_1, IOK WB AD SR FW TB md_X17_isEnough q.1 q.2 := List.forall_mem_cons.mpr ⟨r_X17_isEnough_94, List.forall_mem_cons.mpr ⟨r_X17_isEnough_96, List.forall_mem_cons.mpr ⟨r_X17_isEnough_97, List.forall_mem_cons.mpr ⟨r_X17_isEnough_98, List.forall_mem_cons.mpr ⟨r_X17_isEnough_99, List.forall_mem_cons.mpr ⟨r_X17_isEnough_101, List.forall_mem_cons.mpr ⟨r_X17_isEnough_103, List.forall_mem_cons.mpr ⟨r_X17_isEnough_105, List.forall_mem_cons.mpr ⟨r_X17_isEnough_108, List.forall_mem_cons.mpr ⟨r_X17_isEnough_110, fun _ h => absurd h List.not_mem_nil⟩⟩⟩⟩⟩⟩⟩⟩⟩⟩
set_option maxRecDepth 100000 in
theorem tq_X17_isEnough_1 : tf_X17_isEnough_1 = tl_X17_isEnough_1.map (fun q => (q.1, stepOf NPf md_X17_isEnough q.2)) := rfl
theorem ro_X17_isEnough : RowsOK (md_X17_isEnough, tl_X17_isEnough) tf_X17_isEnough := rows_app ⟨tq_X17_isEnough_0, ok_X17_isEnough_0⟩ (⟨tq_X17_isEnough_1, ok_X17_isEnough_1⟩)
theorem r_X17_keeps_0 : IOK WB AD SR FW TB md_X17_keeps 0 (.iconst 3, 0, 0, 0, []) := io_plain (by decide +kernel) rfl
theorem r_X17_keeps_1 : IOK WB AD SR FW TB md_X17_keeps 1 (.iload_n 1, 0, 0, 0, []) := io_plain (by decide +kernel) rfl
theorem r_X17_keeps_2 : IOK WB AD SR FW TB md_X17_keeps 2 (.imul, 0, 0, 0, []) := io_plain (by decide +kernel) rfl
theorem r_X17_keeps_3 : IOK WB AD SR FW TB md_X17_keeps 3 (.anewarray 48, 0, 0, 0, []) := io_newq (by decide +kernel) (by decide) (wb_7 72 rfl rfl)
theorem r_X17_keeps_6 : IOK WB AD SR FW TB md_X17_keeps 6 (.astore_n 2, 0, 0, 0, []) := io_plain (by decide +kernel) rfl
theorem r_X17_keeps_7 : IOK WB AD SR FW TB md_X17_keeps 7 (.iconst 0, 0, 0, 0, []) := io_plain (by decide +kernel) rfl
theorem r_X17_keeps_8 : IOK WB AD SR FW TB md_X17_keeps 8 (.istore_n 3, 0, 0, 0, []) := io_plain (by decide +kernel) rfl
theorem r_X17_keeps_9 : IOK WB AD SR FW TB md_X17_keeps 9 (.iload_n 3, 0, 0, 0, []) := io_plain (by decide +kernel) rfl
theorem r_X17_keeps_10 : IOK WB AD SR FW TB md_X17_keeps 10 (.aload_n 2, 0, 0, 0, []) := io_plain (by decide +kernel) rfl
theorem r_X17_keeps_11 : IOK WB AD SR FW TB md_X17_keeps 11 (.arraylength, 0, 0, 0, []) := io_plain (by decide +kernel) rfl
theorem r_X17_keeps_12 : IOK WB AD SR FW TB md_X17_keeps 12 (.if_icmp .ge 18, 0, 0, 0, []) := io_plain (by decide +kernel) rfl
theorem r_X17_keeps_15 : IOK WB AD SR FW TB md_X17_keeps 15 (.aload_n 2, 0, 0, 0, []) := io_plain (by decide +kernel) rfl
theorem r_X17_keeps_16 : IOK WB AD SR FW TB md_X17_keeps 16 (.iload_n 3, 0, 0, 0, []) := io_plain (by decide +kernel) rfl
theorem r_X17_keeps_17 : IOK WB AD SR FW TB md_X17_keeps 17 (.aload_n 0, 0, 0, 0, []) := io_plain (by decide +kernel) rfl
theorem r_X17_keeps_18 : IOK WB AD SR FW TB md_X17_keeps 18 (.getfield 102, 18, 41, 2, []) := io_get (by decide +kernel) fo_RX17_102
theorem r_X17_keeps_21 : IOK WB AD SR FW TB md_X17_keeps 21 (.iload_n 3, 0, 0, 0, []) := io_plain (by decide +kernel) rfl
theorem r_X17_keeps_22 : IOK WB AD SR FW TB md_X17_keeps 22 (.aaload, 0, 0, 0, []) := io_plain (by decide +kernel) rfl
theorem r_X17_keeps_23 : IOK WB AD SR FW TB md_X17_keeps 23 (.aastore, 0, 0, 0, []) := io_plain (by decide +kernel) rfl
theorem r_X17_keeps_24 : IOK WB AD SR FW TB md_X17_keeps 24 (.iinc 3 1, 0, 0, 0, []) := io_plain (by decide +kernel) rfl
theorem r_X17_keeps_27 : IOK WB AD SR FW TB md_X17_keeps 27 (.goto (-18), 0, 0, 0, []) := io_plain (by decide +kernel) rfl
theorem r_X17_keeps_30 : IOK WB AD SR FW TB md_X17_keeps 30 (.aload_n 2, 0, 0, 0, []) := io_plain (by decide +kernel) rfl
theorem r_X17_keeps_31 : IOK WB AD SR FW TB md_X17_keeps 31 (.areturn, 0, 0, 0, []) := io_aret (by decide +kernel) rfl
set_option maxRecDepth 100000 in
theorem ok_X17_keeps_0 : ∀ q ∈ tl_X17_keeps, IOK WB AD SR FW TB md_X17_keeps q.1 q.2 := List.forall_mem_cons.mpr ⟨r_X17_keeps_0, List.forall_mem_cons.mpr ⟨r_X17_keeps_1, List.forall_mem_cons.mpr ⟨r_X17_keeps_2, List.forall_mem_cons.mpr ⟨r_X17_keeps_3, List.forall_mem_cons.mpr ⟨r_X17_keeps_6, List.forall_mem_cons.mpr ⟨r_X17_keeps_7, List.forall_mem_cons.mpr ⟨r_X17_keeps_8, List.forall_mem_cons.mpr ⟨r_X17_keeps_9, List.forall_mem_cons.mpr ⟨r_X17_keeps_10, List.forall_mem_cons.mpr ⟨r_X17_keeps_11, List.forall_mem_cons.mpr ⟨r_X17_keeps_12, List.forall_mem_cons.mpr ⟨r_X17_keeps_15, List.forall_mem_cons.mpr ⟨r_X17_keeps_16, List.forall_mem_cons.mpr ⟨r_X17_keeps_17, List.forall_mem_cons.mpr ⟨r_X17_keeps_18, List.forall_mem_cons.mpr ⟨r_X17_keeps_21, List.forall_mem_cons.mpr ⟨r_X17_keeps_22, List.forall_mem_cons.mpr ⟨r_X17_keeps_23, List.forall_mem_cons.mpr ⟨r_X17_keeps_24, List.forall_mem_cons.mpr ⟨r_X17_keeps_27, List.forall_mem_cons.mpr ⟨r_X17_keeps_30, List.forall_mem_cons.mpr ⟨r_X17_keeps_31, fun _ h => absurd h List.not_mem_nil⟩⟩⟩⟩⟩⟩⟩⟩⟩⟩⟩⟩⟩⟩⟩⟩⟩⟩⟩⟩⟩⟩
set_option maxRecDepth 100000 in
theorem tq_X17_keeps_0 : tf_X17_keeps = tl_X17_keeps.map (fun q => (q.1, stepOf NPf md_X17_keeps q.2)) := rfl
theorem ro_X17_keeps : RowsOK (md_X17_keeps, tl_X17_keeps) tf_X17_keeps := ⟨tq_X17_keeps_0, ok_X17_keeps_0⟩
theorem r_X4_addIdentities_0 : IOK WB AD SR FW TB md_X4_addIdentities 0 (.iconst 0, 0, 0, 0, []) := io_plain (by decide +kernel) rfl
theorem r_X4_addIdentities_1 : IOK WB AD SR FW TB md_X4_addIdentities 1 (.istore_n 1, 0, 0, 0, []) := io_plain (by decide +kernel) rfl
theorem r_X4_addIdentities_2 : IOK WB AD SR FW TB md_X4_addIdentities 2 (.iload_n 1, 0, 0, 0, []) := io_plain (by decide +kernel) rfl
theorem r_X4_addIdentities_3 : IOK WB AD SR FW TB md_X4_addIdentities 3 (.aload_n 0, 0, 0, 0, []) := io_plain (by decide +kernel) rfl
theorem r_X4_addIdentities_4 : IOK WB AD SR FW TB md_X4_addIdentities 4 (.getfield 55, 5, 1, 2, []) := io_get (by decide +kernel) fo_RX4_55
theorem r_X4_addIdentities_7 : IOK WB AD SR FW TB md_X4_addIdentities 7 (.getfield 100, 8, 1, 0, []) := io_get (by decide +kernel) fo_RX4_100
theorem r_X4_addIdentities_10 : IOK WB AD SR FW TB md_X4_addIdentities 10 (.if_icmp .ge 107, 0, 0, 0, []) := io_plain (by decide +kernel) rfl
theorem r_X4_addIdentities_13 : IOK WB AD SR FW TB md_X4_addIdentities 13 (.aload_n 0, 0, 0, 0, []) := io_plain (by decide +kernel) rfl
theorem r_X4_addIdentities_14 : IOK WB AD SR FW TB md_X4_addIdentities 14 (.getfield 42, 5, 14, 2, []) := io_get (by decide +kernel) fo_RX4_42
theorem r_X4_addIdentities_17 : IOK WB AD SR FW TB md_X4_addIdentities 17 (.iload_n 1, 0, 0, 0, []) := io_plain (by decide +kernel) rfl
theorem r_X4_addIdentities_18 : IOK WB AD SR FW TB md_X4_addIdentities 18 (.iconst (-1), 0, 0, 0, []) := io_plain (by decide +kernel) rfl
theorem r_X4_addIdentities_19 : IOK WB AD SR FW TB md_X4_addIdentities 19 (.iastore, 0, 0, 0, []) := io_plain (by decide +kernel) rfl
theorem r_X4_addIdentities_20 : IOK WB AD SR FW TB md_X4_addIdentities 20 (.aload_n 0, 0, 0, 0, []) := io_plain (by decide +kernel) rfl
theorem r_X4_addIdentities_21 : IOK WB AD SR FW TB md_X4_addIdentities 21 (.getfield 55, 5, 1, 2, []) := io_get (by decide +kernel) fo_RX4_55
theorem r_X4_addIdentities_24 : IOK WB AD SR FW TB md_X4_addIdentities 24 (.getfield 103, 8, 6, 2, []) := io_get (by decide +kernel) fo_RX4_103
theorem r_X4_addIdentities_27 : IOK WB AD SR FW TB md_X4_addIdentities 27 (.iload_n 1, 0, 0, 0, []) := io_plain (by decide +kernel) rfl
theorem r_X4_addIdentities_28 : IOK WB AD SR FW TB md_X4_addIdentities 28 (.iaload, 0, 0, 0, []) := io_plain (by decide +kernel) rfl
theorem r_X4_addIdentities_29 : IOK WB AD SR FW TB md_X4_addIdentities 29 (.iconst (-1), 0, 0, 0, []) := io_plain (by decide +kernel) rfl
theorem r_X4_addIdentities_30 : IOK WB AD SR FW TB md_X4_addIdentities 30 (.if_icmp .eq 81, 0, 0, 0, []) := io_plain (by decide +kernel) rfl
theorem r_X4_addIdentities_111 : IOK WB AD SR FW TB md_X4_addIdentities 111 (.iinc 1 1, 0, 0, 0, []) := io_plain (by decide +kernel) rfl
theorem r_X4_addIdentities_114 : IOK WB AD SR FW TB md_X4_addIdentities 114 (.goto (-112), 0, 0, 0, []) := io_plain (by decide +kernel) rfl
theorem r_X4_addIdentities_117 : IOK WB AD SR FW TB md_X4_addIdentities 117 (.return_, 0, 0, 0, []) := io_void (by decide +kernel) rfl
set_option maxRecDepth 100000 in
theorem ok_X4_addIdentities_0 : ∀ q ∈ tl_X4_addIdentities, IOK WB AD SR FW TB md_X4_addIdentities q.1 q.2 := fun _ h => absurd h List.not_mem_nil
set_option maxRecDepth 100000 in
theorem tq_X4_addIdentities_0 : tf_X4_addIdentities = tl_X4_addIdentities.map (fun q => (q.1, stepOf NPf md_X4_addIdentities q.2)) := rfl
theorem ro_X4_addIdentities : RowsOK (md_X4_addIdentities, tl_X4_addIdentities) tf_X4_addIdentities := ⟨tq_X4_addIdentities_0, ok_X4_addIdentities_0⟩
theorem r_X16_variables_0 : IOK WB AD SR FW TB md_X16_variables 0 (.aload_n 0, 0, 0, 0, []) := io_plain (by decide +kernel) rfl
theorem r_X16_variables_1 : IOK WB AD SR FW TB md_X16_variables 1 (.invokevirtual 32, 13, 17, 0, []) := io_virt (by decide +kernel) tb_X16_isVariable (Or.inl (wb_8 104 rfl rfl)) in_X16_isVariable se_X16_isVariable ⟨_, rfl, rfl⟩ pr_X16_isVariable (by decide)
theorem r_X16_variables_4 : IOK WB AD SR FW TB md_X16_variables 4 (.ifCond .eq 12, 0, 0, 0, []) := io_plain (by decide +kernel) rfl
theorem r_X16_variables_16 : IOK WB AD SR FW TB md_X16_variables 16 (.iconst 0, 0, 0, 0, []) := io_plain (by decide +kernel) rfl
theorem r_X16_variables_17 : IOK WB AD SR FW TB md_X16_variables 17 (.istore_n 1, 0, 0, 0, []) := io_plain (by decide +kernel) rfl
theorem r_X16_variables_18 : IOK WB AD SR FW TB md_X16_variables 18 (.aload_n 0, 0, 0, 0, []) := io_plain (by decide +kernel) rfl
theorem r_X16_variables_19 : IOK WB AD SR FW TB md_X16_variables 19 (.getfield 21, 17, 2, 2, []) := io_get (by decide +kernel) fo_RX16_21
theorem r_X16_variables_22 : IOK WB AD SR FW TB md_X16_variables 22 (.astore_n 2, 0, 0, 0, []) := io_plain (by decide +kernel) rfl
theorem r_X16_variables_23 : IOK WB AD SR FW TB md_X16_variables 23 (.aload_n 2, 0, 0, 0, []) := io_plain (by decide +kernel) rfl
theorem r_X16_variables_24 : IOK WB AD SR FW TB md_X16_variables 24 (.arraylength, 0, 0, 0, []) := io_plain (by decide +kernel) rfl
theorem r_X16_variables_25 : IOK WB AD SR FW TB md_X16_variables 25 (.istore_n 3, 0, 0, 0, []) := io_plain (by decide +kernel) rfl
theorem r_X16_variables_26 : IOK WB AD SR FW TB md_X16_variables 26 (.iconst 0, 0, 0, 0, []) := io_plain (by decide +kernel) rfl
theorem r_X16_variables_27 : IOK WB AD SR FW TB md_X16_variables 27 (.istore 4, 0, 0, 0, []) := io_plain (by decide +kernel) rfl
theorem r_X16_variables_29 : IOK WB AD SR FW TB md_X16_variables 29 (.iload 4, 0, 0, 0, []) := io_plain (by decide +kernel) rfl
theorem r_X16_variables_31 : IOK WB AD SR FW TB md_X16_variables 31 (.iload_n 3, 0, 0, 0, []) := io_plain (by decide +kernel) rfl
theorem r_X16_variables_32 : IOK WB AD SR FW TB md_X16_variables 32 (.if_icmp .ge 23, 0, 0, 0, []) := io_plain (by decide +kernel) rfl
theorem r_X16_variables_35 : IOK WB AD SR FW TB md_X16_variables 35 (.aload_n 2, 0, 0, 0, []) := io_plain (by decide +kernel) rfl
theorem r_X16_variables_36 : IOK WB AD SR FW TB md_X16_variables 36 (.iload 4, 0, 0, 0, []) := io_plain (by decide +kernel) rfl
theorem r_X16_variables_38 : IOK WB AD SR FW TB md_X16_variables 38 (.aaload, 0, 0, 0, []) := io_plain (by decide +kernel) rfl
theorem r_X16_variables_39 : IOK WB AD SR FW TB md_X16_variables 39 (.astore 5, 0, 0, 0, []) := io_plain (by decide +kernel) rfl
theorem r_X16_variables_41 : IOK WB AD SR FW TB md_X16_variables 41 (.iload_n 1, 0, 0, 0, []) := io_plain (by decide +kernel) rfl
theorem r_X16_variables_42 : IOK WB AD SR FW TB md_X16_variables 42 (.aload 5, 0, 0, 0, []) := io_plain (by decide +kernel) rfl
theorem r_X16_variables_44 : IOK WB AD SR FW TB md_X16_variables 44 (.invokevirtual 36, 38, 17, 0, []) := io_virt (by decide +kernel) tb_X16_variables (Or.inl (wb_8 167 rfl rfl)) in_X16_variables se_X16_variables ⟨_, rfl, rfl⟩ pr_X16_variables (by decide)
theorem r_X16_variables_47 : IOK WB AD SR FW TB md_X16_variables 47 (.ior, 0, 0, 0, []) := io_plain (by decide +kernel) rfl
theorem r_X16_variables_48 : IOK WB AD SR FW TB md_X16_variables 48 (.istore_n 1, 0, 0, 0, []) := io_plain (by decide +kernel) rfl
theorem r_X16_variables_49 : IOK WB AD SR FW TB md_X16_variables 49 (.iinc 4 1, 0, 0, 0, []) := io_plain (by decide +kernel) rfl
theorem r_X16_variables_52 : IOK WB AD SR FW TB md_X16_variables 52 (.goto (-23), 0, 0, 0, []) := io_plain (by decide +kernel) rfl
theorem r_X16_variables_55 : IOK WB AD SR FW TB md_X16_variables 55 (.iload_n 1, 0, 0, 0, []) := io_plain (by decide +kernel) rfl
theorem r_X16_variables_56 : IOK WB AD SR FW TB md_X16_variables 56 (.ireturn, 0, 0, 0, []) := io_plain (by decide +kernel) rfl
set_option maxRecDepth 100000 in
theorem ok_X16_variables_0 : ∀ q ∈ tl_X16_variables, IOK WB AD SR FW TB md_X16_variables q.1 q.2 := List.forall_mem_cons.mpr ⟨r_X16_variables_0, List.forall_mem_cons.mpr ⟨r_X16_variables_1, List.forall_mem_cons.mpr ⟨r_X16_variables_4, List.forall_mem_cons.mpr ⟨r_X16_variables_16, List.forall_mem_cons.mpr ⟨r_X16_variables_17, List.forall_mem_cons.mpr ⟨r_X16_variables_18, List.forall_mem_cons.mpr ⟨r_X16_variables_19, List.forall_mem_cons.mpr ⟨r_X16_variables_22, List.forall_mem_cons.mpr ⟨r_X16_variables_23, List.forall_mem_cons.mpr ⟨r_X16_variables_24, List.forall_mem_cons.mpr ⟨r_X16_variables_25, List.forall_mem_cons.mpr ⟨r_X16_variables_26, List.forall_mem_cons.mpr ⟨r_X16_variables_27, List.forall_mem_cons.mpr ⟨r_X16_variables_29, List.forall_mem_cons.mpr ⟨r_X16_variables_31, List.forall_mem_cons.mpr ⟨r_X16_variables_32, List.forall_mem_cons.mpr ⟨r_X16_variables_35, List.forall_mem_cons.mpr ⟨r_X16_variables_36, List.forall_mem_cons.mpr ⟨r_X16_variables_38, List.forall_mem_cons.mpr ⟨r_X16_variables_39, List.forall_mem_cons.mpr ⟨r_X16_variables_41, List.forall_mem_cons.mpr ⟨r_X16_variables_42, List.forall_mem_cons.mpr ⟨r_X16_variables_44, List.forall_mem_cons.mpr ⟨r_X16_variables_47, List.forall_mem_cons.mpr ⟨r_X16_variables_48, List.forall_mem_cons.mpr ⟨r_X16_variables_49, List.forall_mem_cons.mpr ⟨r_X16_variables_52, List.forall_mem_cons.mpr ⟨r_X16_variables_55, List.forall_mem_cons.mpr ⟨r_X16_variables_56, fun _ h => absurd h List.not_mem_nil⟩⟩⟩⟩⟩⟩⟩⟩⟩⟩⟩⟩⟩⟩⟩⟩⟩⟩⟩⟩⟩⟩⟩⟩⟩⟩⟩⟩⟩
set_option maxRecDepth 100000 in
theorem tq_X16_variables_0 : tf_X16_variables = tl_X16_variables.map (fun q => (q.1, stepOf NPf md_X16_variables q.2)) := rfl
theorem ro_X16_variables : RowsOK (md_X16_variables, tl_X16_variables) tf_X16_variables := ⟨tq_X16_variables_0, ok_X16_variables_0⟩
theorem r_X2_partAt_0 : IOK WB AD SR FW TB md_X2_partAt 0 (.sipush 620, 0, 0, 0, []) := io_plain (by decide +kernel) rfl
