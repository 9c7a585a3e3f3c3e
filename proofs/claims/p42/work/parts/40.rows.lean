theorem r_X6_rewritten_166 : IOK WB AD SR FW TB md_X6_rewritten 166 (.iload 4, 0, 0, 0, []) := io_plain (by decide +kernel) rfl
theorem r_X6_rewritten_168 : IOK WB AD SR FW TB md_X6_rewritten 168 (.iconst 1, 0, 0, 0, []) := io_plain (by decide +kernel) rfl
theorem r_X6_rewritten_169 : IOK WB AD SR FW TB md_X6_rewritten 169 (.invokevirtual 97, 29, 2, 0, []) := io_virt (by decide +kernel) tb_X2_partAt (Or.inl (wb_4 93 rfl rfl)) in_X2_partAt se_X2_partAt ⟨_, rfl, rfl⟩ pr_X2_partAt (by decide)
theorem r_X6_rewritten_172 : IOK WB AD SR FW TB md_X6_rewritten 172 (.invokevirtual 122, 76, 8, 0, []) := io_virt (by decide +kernel) tb_X8_rebuild (Or.inr ⟨rfl, rfl, "RuleForge", List.mem_of_getElem? (i := 5) rfl⟩) in_X8_rebuild se_X8_rebuild ⟨_, rfl, rfl⟩ pr_X8_rebuild (by decide)
theorem r_X6_rewritten_175 : IOK WB AD SR FW TB md_X6_rewritten 175 (.istore 10, 0, 0, 0, []) := io_plain (by decide +kernel) rfl
theorem r_X6_rewritten_177 : IOK WB AD SR FW TB md_X6_rewritten 177 (.iload 10, 0, 0, 0, []) := io_plain (by decide +kernel) rfl
theorem r_X6_rewritten_179 : IOK WB AD SR FW TB md_X6_rewritten 179 (.ifCond .ge 8, 0, 0, 0, []) := io_plain (by decide +kernel) rfl
theorem r_X6_rewritten_187 : IOK WB AD SR FW TB md_X6_rewritten 187 (.aload_n 0, 0, 0, 0, []) := io_plain (by decide +kernel) rfl
theorem r_X6_rewritten_188 : IOK WB AD SR FW TB md_X6_rewritten 188 (.getfield 33, 6, 0, 2, []) := io_get (by decide +kernel) fo_RX6_33
theorem r_X6_rewritten_191 : IOK WB AD SR FW TB md_X6_rewritten 191 (.iload_n 3, 0, 0, 0, []) := io_plain (by decide +kernel) rfl
theorem r_X6_rewritten_192 : IOK WB AD SR FW TB md_X6_rewritten 192 (.iload 10, 0, 0, 0, []) := io_plain (by decide +kernel) rfl
theorem r_X6_rewritten_194 : IOK WB AD SR FW TB md_X6_rewritten 194 (.invokevirtual 83, 74, 8, 0, []) := io_virt (by decide +kernel) tb_X8_settle (Or.inl (wb_4 207 rfl rfl)) in_X8_settle se_X8_settle ⟨_, rfl, rfl⟩ pr_X8_settle (by decide)
theorem r_X6_rewritten_197 : IOK WB AD SR FW TB md_X6_rewritten 197 (.ireturn, 0, 0, 0, []) := io_plain (by decide +kernel) rfl
theorem r_X6_rewritten_214 : IOK WB AD SR FW TB md_X6_rewritten 214 (.aload_n 0, 0, 0, 0, []) := io_plain (by decide +kernel) rfl
theorem r_X6_rewritten_215 : IOK WB AD SR FW TB md_X6_rewritten 215 (.getfield 33, 6, 0, 2, []) := io_get (by decide +kernel) fo_RX6_33
theorem r_X6_rewritten_218 : IOK WB AD SR FW TB md_X6_rewritten 218 (.iload_n 3, 0, 0, 0, []) := io_plain (by decide +kernel) rfl
theorem r_X6_rewritten_219 : IOK WB AD SR FW TB md_X6_rewritten 219 (.putfield 60, 8, 2, 0, []) := io_put (by decide +kernel) fo_RX6_60 po_RX6_0_8_2_0
theorem r_X6_rewritten_222 : IOK WB AD SR FW TB md_X6_rewritten 222 (.iinc 4 1, 0, 0, 0, []) := io_plain (by decide +kernel) rfl
theorem r_X6_rewritten_225 : IOK WB AD SR FW TB md_X6_rewritten 225 (.goto (-214), 0, 0, 0, []) := io_plain (by decide +kernel) rfl
theorem r_X6_rewritten_228 : IOK WB AD SR FW TB md_X6_rewritten 228 (.iconst (-1), 0, 0, 0, []) := io_plain (by decide +kernel) rfl
theorem r_X6_rewritten_229 : IOK WB AD SR FW TB md_X6_rewritten 229 (.ireturn, 0, 0, 0, []) := io_plain (by decide +kernel) rfl
set_option maxRecDepth 100000 in
theorem ok_X6_rewritten_0 : ∀ q ∈ tl_X6_rewritten, IOK WB AD SR FW TB md_X6_rewritten q.1 q.2 := fun _ h => absurd h List.not_mem_nil
set_option maxRecDepth 100000 in
theorem tq_X6_rewritten_0 : tf_X6_rewritten = tl_X6_rewritten.map (fun q => (q.1, stepOf NPf md_X6_rewritten q.2)) := rfl
theorem ro_X6_rewritten : RowsOK (md_X6_rewritten, tl_X6_rewritten) tf_X6_rewritten := ⟨tq_X6_rewritten_0, ok_X6_rewritten_0⟩
theorem r_X6_decide_0 : IOK WB AD SR FW TB md_X6_decide 0 (.aload_n 0, 0, 0, 0, []) := io_plain (by decide +kernel) rfl
theorem r_X6_decide_1 : IOK WB AD SR FW TB md_X6_decide 1 (.getfield 34, 6, 1, 2, []) := io_get (by decide +kernel) fo_RX6_34
theorem r_X6_decide_4 : IOK WB AD SR FW TB md_X6_decide 4 (.getfield 125, 2, 4, 2, []) := io_get (by decide +kernel) fo_RX6_125
theorem r_X6_decide_7 : IOK WB AD SR FW TB md_X6_decide 7 (.iload_n 1, 0, 0, 0, []) := io_plain (by decide +kernel) rfl
theorem r_X6_decide_8 : IOK WB AD SR FW TB md_X6_decide 8 (.baload, 0, 0, 0, []) := io_plain (by decide +kernel) rfl
theorem r_X6_decide_9 : IOK WB AD SR FW TB md_X6_decide 9 (.ifCond .ne 5, 0, 0, 0, []) := io_plain (by decide +kernel) rfl
theorem r_X6_decide_12 : IOK WB AD SR FW TB md_X6_decide 12 (.iconst 1, 0, 0, 0, []) := io_plain (by decide +kernel) rfl
theorem r_X6_decide_13 : IOK WB AD SR FW TB md_X6_decide 13 (.ireturn, 0, 0, 0, []) := io_plain (by decide +kernel) rfl
set_option maxRecDepth 100000 in
theorem ok_X6_decide_0 : ∀ q ∈ tl_X6_decide, IOK WB AD SR FW TB md_X6_decide q.1 q.2 := fun _ h => absurd h List.not_mem_nil
set_option maxRecDepth 100000 in
theorem tq_X6_decide_0 : tf_X6_decide = tl_X6_decide.map (fun q => (q.1, stepOf NPf md_X6_decide q.2)) := rfl
theorem ro_X6_decide : RowsOK (md_X6_decide, tl_X6_decide) tf_X6_decide := ⟨tq_X6_decide_0, ok_X6_decide_0⟩
theorem r_X7_reaches_0 : IOK WB AD SR FW TB md_X7_reaches 0 (.aload_n 0, 0, 0, 0, []) := io_plain (by decide +kernel) rfl
theorem r_X7_reaches_1 : IOK WB AD SR FW TB md_X7_reaches 1 (.getfield 9, 7, 2, 2, []) := io_get (by decide +kernel) fo_RX7_9
theorem r_X7_reaches_4 : IOK WB AD SR FW TB md_X7_reaches 4 (.iload_n 1, 0, 0, 0, []) := io_plain (by decide +kernel) rfl
theorem r_X7_reaches_5 : IOK WB AD SR FW TB md_X7_reaches 5 (.iconst 1, 0, 0, 0, []) := io_plain (by decide +kernel) rfl
theorem r_X7_reaches_6 : IOK WB AD SR FW TB md_X7_reaches 6 (.iadd, 0, 0, 0, []) := io_plain (by decide +kernel) rfl
theorem r_X7_reaches_7 : IOK WB AD SR FW TB md_X7_reaches 7 (.iaload, 0, 0, 0, []) := io_plain (by decide +kernel) rfl
theorem r_X7_reaches_8 : IOK WB AD SR FW TB md_X7_reaches 8 (.iload_n 2, 0, 0, 0, []) := io_plain (by decide +kernel) rfl
theorem r_X7_reaches_9 : IOK WB AD SR FW TB md_X7_reaches 9 (.ishr, 0, 0, 0, []) := io_plain (by decide +kernel) rfl
theorem r_X7_reaches_10 : IOK WB AD SR FW TB md_X7_reaches 10 (.iconst 1, 0, 0, 0, []) := io_plain (by decide +kernel) rfl
theorem r_X7_reaches_11 : IOK WB AD SR FW TB md_X7_reaches 11 (.iand, 0, 0, 0, []) := io_plain (by decide +kernel) rfl
theorem r_X7_reaches_12 : IOK WB AD SR FW TB md_X7_reaches 12 (.iconst 1, 0, 0, 0, []) := io_plain (by decide +kernel) rfl
theorem r_X7_reaches_13 : IOK WB AD SR FW TB md_X7_reaches 13 (.if_icmp .ne 7, 0, 0, 0, []) := io_plain (by decide +kernel) rfl
theorem r_X7_reaches_16 : IOK WB AD SR FW TB md_X7_reaches 16 (.iconst 1, 0, 0, 0, []) := io_plain (by decide +kernel) rfl
theorem r_X7_reaches_17 : IOK WB AD SR FW TB md_X7_reaches 17 (.goto 4, 0, 0, 0, []) := io_plain (by decide +kernel) rfl
theorem r_X7_reaches_21 : IOK WB AD SR FW TB md_X7_reaches 21 (.ireturn, 0, 0, 0, []) := io_plain (by decide +kernel) rfl
set_option maxRecDepth 100000 in
theorem ok_X7_reaches_0 : ∀ q ∈ tl_X7_reaches, IOK WB AD SR FW TB md_X7_reaches q.1 q.2 := fun _ h => absurd h List.not_mem_nil
set_option maxRecDepth 100000 in
theorem tq_X7_reaches_0 : tf_X7_reaches = tl_X7_reaches.map (fun q => (q.1, stepOf NPf md_X7_reaches q.2)) := rfl
theorem ro_X7_reaches : RowsOK (md_X7_reaches, tl_X7_reaches) tf_X7_reaches := ⟨tq_X7_reaches_0, ok_X7_reaches_0⟩
theorem r_X7_resultOf_0 : IOK WB AD SR FW TB md_X7_resultOf 0 (.aload_n 0, 0, 0, 0, []) := io_plain (by decide +kernel) rfl
theorem r_X7_resultOf_1 : IOK WB AD SR FW TB md_X7_resultOf 1 (.getfield 18, 7, 4, 2, []) := io_get (by decide +kernel) fo_RX7_18
theorem r_X7_resultOf_4 : IOK WB AD SR FW TB md_X7_resultOf 4 (.iload_n 1, 0, 0, 0, []) := io_plain (by decide +kernel) rfl
theorem r_X7_resultOf_5 : IOK WB AD SR FW TB md_X7_resultOf 5 (.iaload, 0, 0, 0, []) := io_plain (by decide +kernel) rfl
theorem r_X7_resultOf_6 : IOK WB AD SR FW TB md_X7_resultOf 6 (.istore 5, 0, 0, 0, []) := io_plain (by decide +kernel) rfl
theorem r_X7_resultOf_8 : IOK WB AD SR FW TB md_X7_resultOf 8 (.iconst 0, 0, 0, 0, []) := io_plain (by decide +kernel) rfl
theorem r_X7_resultOf_9 : IOK WB AD SR FW TB md_X7_resultOf 9 (.istore 6, 0, 0, 0, []) := io_plain (by decide +kernel) rfl
theorem r_X7_resultOf_11 : IOK WB AD SR FW TB md_X7_resultOf 11 (.iload 6, 0, 0, 0, []) := io_plain (by decide +kernel) rfl
theorem r_X7_resultOf_13 : IOK WB AD SR FW TB md_X7_resultOf 13 (.aload_n 0, 0, 0, 0, []) := io_plain (by decide +kernel) rfl
theorem r_X7_resultOf_14 : IOK WB AD SR FW TB md_X7_resultOf 14 (.getfield 27, 7, 7, 2, []) := io_get (by decide +kernel) fo_RX7_27
theorem r_X7_resultOf_17 : IOK WB AD SR FW TB md_X7_resultOf 17 (.iload_n 1, 0, 0, 0, []) := io_plain (by decide +kernel) rfl
theorem r_X7_resultOf_18 : IOK WB AD SR FW TB md_X7_resultOf 18 (.iaload, 0, 0, 0, []) := io_plain (by decide +kernel) rfl
theorem r_X7_resultOf_19 : IOK WB AD SR FW TB md_X7_resultOf 19 (.if_icmp .ge 189, 0, 0, 0, []) := io_plain (by decide +kernel) rfl
theorem r_X7_resultOf_22 : IOK WB AD SR FW TB md_X7_resultOf 22 (.iload_n 1, 0, 0, 0, []) := io_plain (by decide +kernel) rfl
theorem r_X7_resultOf_23 : IOK WB AD SR FW TB md_X7_resultOf 23 (.iconst 3, 0, 0, 0, []) := io_plain (by decide +kernel) rfl
theorem r_X7_resultOf_24 : IOK WB AD SR FW TB md_X7_resultOf 24 (.imul, 0, 0, 0, []) := io_plain (by decide +kernel) rfl
theorem r_X7_resultOf_25 : IOK WB AD SR FW TB md_X7_resultOf 25 (.iload 6, 0, 0, 0, []) := io_plain (by decide +kernel) rfl
theorem r_X7_resultOf_27 : IOK WB AD SR FW TB md_X7_resultOf 27 (.iadd, 0, 0, 0, []) := io_plain (by decide +kernel) rfl
theorem r_X7_resultOf_28 : IOK WB AD SR FW TB md_X7_resultOf 28 (.iconst 4, 0, 0, 0, []) := io_plain (by decide +kernel) rfl
theorem r_X7_resultOf_29 : IOK WB AD SR FW TB md_X7_resultOf 29 (.imul, 0, 0, 0, []) := io_plain (by decide +kernel) rfl
theorem r_X7_resultOf_30 : IOK WB AD SR FW TB md_X7_resultOf 30 (.istore 7, 0, 0, 0, []) := io_plain (by decide +kernel) rfl
theorem r_X7_resultOf_32 : IOK WB AD SR FW TB md_X7_resultOf 32 (.aload_n 0, 0, 0, 0, []) := io_plain (by decide +kernel) rfl
theorem r_X7_resultOf_33 : IOK WB AD SR FW TB md_X7_resultOf 33 (.getfield 30, 7, 8, 2, []) := io_get (by decide +kernel) fo_RX7_30
theorem r_X7_resultOf_36 : IOK WB AD SR FW TB md_X7_resultOf 36 (.iload 7, 0, 0, 0, []) := io_plain (by decide +kernel) rfl
theorem r_X7_resultOf_38 : IOK WB AD SR FW TB md_X7_resultOf 38 (.iconst 1, 0, 0, 0, []) := io_plain (by decide +kernel) rfl
theorem r_X7_resultOf_39 : IOK WB AD SR FW TB md_X7_resultOf 39 (.iadd, 0, 0, 0, []) := io_plain (by decide +kernel) rfl
theorem r_X7_resultOf_40 : IOK WB AD SR FW TB md_X7_resultOf 40 (.iaload, 0, 0, 0, []) := io_plain (by decide +kernel) rfl
theorem r_X7_resultOf_41 : IOK WB AD SR FW TB md_X7_resultOf 41 (.istore 8, 0, 0, 0, []) := io_plain (by decide +kernel) rfl
theorem r_X7_resultOf_43 : IOK WB AD SR FW TB md_X7_resultOf 43 (.aload_n 0, 0, 0, 0, []) := io_plain (by decide +kernel) rfl
theorem r_X7_resultOf_44 : IOK WB AD SR FW TB md_X7_resultOf 44 (.getfield 30, 7, 8, 2, []) := io_get (by decide +kernel) fo_RX7_30
theorem r_X7_resultOf_47 : IOK WB AD SR FW TB md_X7_resultOf 47 (.iload 7, 0, 0, 0, []) := io_plain (by decide +kernel) rfl
theorem r_X7_resultOf_49 : IOK WB AD SR FW TB md_X7_resultOf 49 (.iconst 2, 0, 0, 0, []) := io_plain (by decide +kernel) rfl
theorem r_X7_resultOf_50 : IOK WB AD SR FW TB md_X7_resultOf 50 (.iadd, 0, 0, 0, []) := io_plain (by decide +kernel) rfl
theorem r_X7_resultOf_51 : IOK WB AD SR FW TB md_X7_resultOf 51 (.iaload, 0, 0, 0, []) := io_plain (by decide +kernel) rfl
theorem r_X7_resultOf_52 : IOK WB AD SR FW TB md_X7_resultOf 52 (.istore 9, 0, 0, 0, []) := io_plain (by decide +kernel) rfl
theorem r_X7_resultOf_54 : IOK WB AD SR FW TB md_X7_resultOf 54 (.iload 5, 0, 0, 0, []) := io_plain (by decide +kernel) rfl
theorem r_X7_resultOf_56 : IOK WB AD SR FW TB md_X7_resultOf 56 (.iconst 1, 0, 0, 0, []) := io_plain (by decide +kernel) rfl
theorem r_X7_resultOf_57 : IOK WB AD SR FW TB md_X7_resultOf 57 (.if_icmp .lt 20, 0, 0, 0, []) := io_plain (by decide +kernel) rfl
theorem r_X7_resultOf_60 : IOK WB AD SR FW TB md_X7_resultOf 60 (.aload_n 0, 0, 0, 0, []) := io_plain (by decide +kernel) rfl
theorem r_X7_resultOf_61 : IOK WB AD SR FW TB md_X7_resultOf 61 (.getfield 9, 7, 2, 2, []) := io_get (by decide +kernel) fo_RX7_9
theorem r_X7_resultOf_64 : IOK WB AD SR FW TB md_X7_resultOf 64 (.iload_n 2, 0, 0, 0, []) := io_plain (by decide +kernel) rfl
theorem r_X7_resultOf_65 : IOK WB AD SR FW TB md_X7_resultOf 65 (.iconst 1, 0, 0, 0, []) := io_plain (by decide +kernel) rfl
theorem r_X7_resultOf_66 : IOK WB AD SR FW TB md_X7_resultOf 66 (.iadd, 0, 0, 0, []) := io_plain (by decide +kernel) rfl
theorem r_X7_resultOf_67 : IOK WB AD SR FW TB md_X7_resultOf 67 (.iaload, 0, 0, 0, []) := io_plain (by decide +kernel) rfl
theorem r_X7_resultOf_68 : IOK WB AD SR FW TB md_X7_resultOf 68 (.iload 8, 0, 0, 0, []) := io_plain (by decide +kernel) rfl
theorem r_X7_resultOf_70 : IOK WB AD SR FW TB md_X7_resultOf 70 (.ishr, 0, 0, 0, []) := io_plain (by decide +kernel) rfl
theorem r_X7_resultOf_71 : IOK WB AD SR FW TB md_X7_resultOf 71 (.iconst 1, 0, 0, 0, []) := io_plain (by decide +kernel) rfl
theorem r_X7_resultOf_72 : IOK WB AD SR FW TB md_X7_resultOf 72 (.iand, 0, 0, 0, []) := io_plain (by decide +kernel) rfl
theorem r_X7_resultOf_73 : IOK WB AD SR FW TB md_X7_resultOf 73 (.iconst 1, 0, 0, 0, []) := io_plain (by decide +kernel) rfl
theorem r_X7_resultOf_74 : IOK WB AD SR FW TB md_X7_resultOf 74 (.if_icmp .ne 61, 0, 0, 0, []) := io_plain (by decide +kernel) rfl
theorem r_X7_resultOf_77 : IOK WB AD SR FW TB md_X7_resultOf 77 (.iload 5, 0, 0, 0, []) := io_plain (by decide +kernel) rfl
theorem r_X7_resultOf_79 : IOK WB AD SR FW TB md_X7_resultOf 79 (.iconst 2, 0, 0, 0, []) := io_plain (by decide +kernel) rfl
theorem r_X7_resultOf_80 : IOK WB AD SR FW TB md_X7_resultOf 80 (.if_icmp .lt 20, 0, 0, 0, []) := io_plain (by decide +kernel) rfl
theorem r_X7_resultOf_83 : IOK WB AD SR FW TB md_X7_resultOf 83 (.aload_n 0, 0, 0, 0, []) := io_plain (by decide +kernel) rfl
theorem r_X7_resultOf_84 : IOK WB AD SR FW TB md_X7_resultOf 84 (.getfield 9, 7, 2, 2, []) := io_get (by decide +kernel) fo_RX7_9
theorem r_X7_resultOf_87 : IOK WB AD SR FW TB md_X7_resultOf 87 (.iload_n 3, 0, 0, 0, []) := io_plain (by decide +kernel) rfl
theorem r_X7_resultOf_88 : IOK WB AD SR FW TB md_X7_resultOf 88 (.iconst 1, 0, 0, 0, []) := io_plain (by decide +kernel) rfl
theorem r_X7_resultOf_89 : IOK WB AD SR FW TB md_X7_resultOf 89 (.iadd, 0, 0, 0, []) := io_plain (by decide +kernel) rfl
theorem r_X7_resultOf_90 : IOK WB AD SR FW TB md_X7_resultOf 90 (.iaload, 0, 0, 0, []) := io_plain (by decide +kernel) rfl
theorem r_X7_resultOf_91 : IOK WB AD SR FW TB md_X7_resultOf 91 (.iload 9, 0, 0, 0, []) := io_plain (by decide +kernel) rfl
theorem r_X7_resultOf_93 : IOK WB AD SR FW TB md_X7_resultOf 93 (.ishr, 0, 0, 0, []) := io_plain (by decide +kernel) rfl
theorem r_X7_resultOf_94 : IOK WB AD SR FW TB md_X7_resultOf 94 (.iconst 1, 0, 0, 0, []) := io_plain (by decide +kernel) rfl
theorem r_X7_resultOf_95 : IOK WB AD SR FW TB md_X7_resultOf 95 (.iand, 0, 0, 0, []) := io_plain (by decide +kernel) rfl
theorem r_X7_resultOf_96 : IOK WB AD SR FW TB md_X7_resultOf 96 (.iconst 1, 0, 0, 0, []) := io_plain (by decide +kernel) rfl
theorem r_X7_resultOf_97 : IOK WB AD SR FW TB md_X7_resultOf 97 (.if_icmp .ne 38, 0, 0, 0, []) := io_plain (by decide +kernel) rfl
theorem r_X7_resultOf_100 : IOK WB AD SR FW TB md_X7_resultOf 100 (.iload 5, 0, 0, 0, []) := io_plain (by decide +kernel) rfl
theorem r_X7_resultOf_102 : IOK WB AD SR FW TB md_X7_resultOf 102 (.iconst 3, 0, 0, 0, []) := io_plain (by decide +kernel) rfl
theorem r_X7_resultOf_103 : IOK WB AD SR FW TB md_X7_resultOf 103 (.if_icmp .lt 28, 0, 0, 0, []) := io_plain (by decide +kernel) rfl
theorem r_X7_resultOf_131 : IOK WB AD SR FW TB md_X7_resultOf 131 (.iconst 1, 0, 0, 0, []) := io_plain (by decide +kernel) rfl
theorem r_X7_resultOf_132 : IOK WB AD SR FW TB md_X7_resultOf 132 (.goto 4, 0, 0, 0, []) := io_plain (by decide +kernel) rfl
theorem r_X7_resultOf_136 : IOK WB AD SR FW TB md_X7_resultOf 136 (.istore 10, 0, 0, 0, []) := io_plain (by decide +kernel) rfl
theorem r_X7_resultOf_138 : IOK WB AD SR FW TB md_X7_resultOf 138 (.aload_n 0, 0, 0, 0, []) := io_plain (by decide +kernel) rfl
theorem r_X7_resultOf_139 : IOK WB AD SR FW TB md_X7_resultOf 139 (.getfield 21, 7, 5, 2, []) := io_get (by decide +kernel) fo_RX7_21
theorem r_X7_resultOf_142 : IOK WB AD SR FW TB md_X7_resultOf 142 (.iload_n 1, 0, 0, 0, []) := io_plain (by decide +kernel) rfl
theorem r_X7_resultOf_143 : IOK WB AD SR FW TB md_X7_resultOf 143 (.iaload, 0, 0, 0, []) := io_plain (by decide +kernel) rfl
theorem r_X7_resultOf_144 : IOK WB AD SR FW TB md_X7_resultOf 144 (.iconst 1, 0, 0, 0, []) := io_plain (by decide +kernel) rfl
theorem r_X7_resultOf_145 : IOK WB AD SR FW TB md_X7_resultOf 145 (.if_icmp .ne 36, 0, 0, 0, []) := io_plain (by decide +kernel) rfl
theorem r_X7_resultOf_181 : IOK WB AD SR FW TB md_X7_resultOf 181 (.iconst 0, 0, 0, 0, []) := io_plain (by decide +kernel) rfl
theorem r_X7_resultOf_182 : IOK WB AD SR FW TB md_X7_resultOf 182 (.istore 11, 0, 0, 0, []) := io_plain (by decide +kernel) rfl
theorem r_X7_resultOf_184 : IOK WB AD SR FW TB md_X7_resultOf 184 (.iload 10, 0, 0, 0, []) := io_plain (by decide +kernel) rfl
theorem r_X7_resultOf_186 : IOK WB AD SR FW TB md_X7_resultOf 186 (.ifCond .ne 8, 0, 0, 0, []) := io_plain (by decide +kernel) rfl
theorem r_X7_resultOf_194 : IOK WB AD SR FW TB md_X7_resultOf 194 (.aload_n 0, 0, 0, 0, []) := io_plain (by decide +kernel) rfl
theorem r_X7_resultOf_195 : IOK WB AD SR FW TB md_X7_resultOf 195 (.getfield 30, 7, 8, 2, []) := io_get (by decide +kernel) fo_RX7_30
theorem r_X7_resultOf_198 : IOK WB AD SR FW TB md_X7_resultOf 198 (.iload 7, 0, 0, 0, []) := io_plain (by decide +kernel) rfl
theorem r_X7_resultOf_200 : IOK WB AD SR FW TB md_X7_resultOf 200 (.iaload, 0, 0, 0, []) := io_plain (by decide +kernel) rfl
theorem r_X7_resultOf_201 : IOK WB AD SR FW TB md_X7_resultOf 201 (.ireturn, 0, 0, 0, []) := io_plain (by decide +kernel) rfl
set_option maxRecDepth 100000 in
theorem ok_X7_resultOf_0 : ∀ q ∈ tl_X7_resultOf, IOK WB AD SR FW TB md_X7_resultOf q.1 q.2 := fun _ h => absurd h List.not_mem_nil
set_option maxRecDepth 100000 in
theorem tq_X7_resultOf_0 : tf_X7_resultOf = tl_X7_resultOf.map (fun q => (q.1, stepOf NPf md_X7_resultOf q.2)) := rfl
theorem ro_X7_resultOf : RowsOK (md_X7_resultOf, tl_X7_resultOf) tf_X7_resultOf := ⟨tq_X7_resultOf_0, ok_X7_resultOf_0⟩
theorem r_X8_order_0 : IOK WB AD SR FW TB md_X8_order 0 (.iconst 1, 0, 0, 0, []) := io_plain (by decide +kernel) rfl
theorem r_X8_order_1 : IOK WB AD SR FW TB md_X8_order 1 (.istore_n 3, 0, 0, 0, []) := io_plain (by decide +kernel) rfl
theorem r_X8_order_2 : IOK WB AD SR FW TB md_X8_order 2 (.iconst 0, 0, 0, 0, []) := io_plain (by decide +kernel) rfl
theorem r_X8_order_3 : IOK WB AD SR FW TB md_X8_order 3 (.istore 4, 0, 0, 0, []) := io_plain (by decide +kernel) rfl
theorem r_X8_order_5 : IOK WB AD SR FW TB md_X8_order 5 (.iload 4, 0, 0, 0, []) := io_plain (by decide +kernel) rfl
theorem r_X8_order_7 : IOK WB AD SR FW TB md_X8_order 7 (.bipush 20, 0, 0, 0, []) := io_plain (by decide +kernel) rfl
theorem r_X8_order_9 : IOK WB AD SR FW TB md_X8_order 9 (.if_icmp .ge 72, 0, 0, 0, []) := io_plain (by decide +kernel) rfl
theorem r_X8_order_12 : IOK WB AD SR FW TB md_X8_order 12 (.iload_n 3, 0, 0, 0, []) := io_plain (by decide +kernel) rfl
theorem r_X8_order_13 : IOK WB AD SR FW TB md_X8_order 13 (.ifCond .le 68, 0, 0, 0, []) := io_plain (by decide +kernel) rfl
theorem r_X8_order_16 : IOK WB AD SR FW TB md_X8_order 16 (.aload_n 0, 0, 0, 0, []) := io_plain (by decide +kernel) rfl
theorem r_X8_order_17 : IOK WB AD SR FW TB md_X8_order 17 (.getfield 9, 8, 1, 2, []) := io_get (by decide +kernel) fo_RX8_9
theorem r_X8_order_20 : IOK WB AD SR FW TB md_X8_order 20 (.iload_n 1, 0, 0, 0, []) := io_plain (by decide +kernel) rfl
theorem r_X8_order_21 : IOK WB AD SR FW TB md_X8_order 21 (.iload 4, 0, 0, 0, []) := io_plain (by decide +kernel) rfl
theorem r_X8_order_23 : IOK WB AD SR FW TB md_X8_order 23 (.iadd, 0, 0, 0, []) := io_plain (by decide +kernel) rfl
theorem r_X8_order_24 : IOK WB AD SR FW TB md_X8_order 24 (.iaload, 0, 0, 0, []) := io_plain (by decide +kernel) rfl
theorem r_X8_order_25 : IOK WB AD SR FW TB md_X8_order 25 (.istore 5, 0, 0, 0, []) := io_plain (by decide +kernel) rfl
theorem r_X8_order_27 : IOK WB AD SR FW TB md_X8_order 27 (.iload 5, 0, 0, 0, []) := io_plain (by decide +kernel) rfl
theorem r_X8_order_29 : IOK WB AD SR FW TB md_X8_order 29 (.aload_n 0, 0, 0, 0, []) := io_plain (by decide +kernel) rfl
theorem r_X8_order_30 : IOK WB AD SR FW TB md_X8_order 30 (.getfield 9, 8, 1, 2, []) := io_get (by decide +kernel) fo_RX8_9
theorem r_X8_order_33 : IOK WB AD SR FW TB md_X8_order 33 (.iload_n 2, 0, 0, 0, []) := io_plain (by decide +kernel) rfl
theorem r_X8_order_34 : IOK WB AD SR FW TB md_X8_order 34 (.iload 4, 0, 0, 0, []) := io_plain (by decide +kernel) rfl
theorem r_X8_order_36 : IOK WB AD SR FW TB md_X8_order 36 (.iadd, 0, 0, 0, []) := io_plain (by decide +kernel) rfl
theorem r_X8_order_37 : IOK WB AD SR FW TB md_X8_order 37 (.iaload, 0, 0, 0, []) := io_plain (by decide +kernel) rfl
theorem r_X8_order_38 : IOK WB AD SR FW TB md_X8_order 38 (.if_icmp .eq 16, 0, 0, 0, []) := io_plain (by decide +kernel) rfl
theorem r_X8_order_41 : IOK WB AD SR FW TB md_X8_order 41 (.iload 5, 0, 0, 0, []) := io_plain (by decide +kernel) rfl
theorem r_X8_order_43 : IOK WB AD SR FW TB md_X8_order 43 (.aload_n 0, 0, 0, 0, []) := io_plain (by decide +kernel) rfl
theorem r_X8_order_44 : IOK WB AD SR FW TB md_X8_order 44 (.getfield 9, 8, 1, 2, []) := io_get (by decide +kernel) fo_RX8_9
theorem r_X8_order_47 : IOK WB AD SR FW TB md_X8_order 47 (.iload_n 2, 0, 0, 0, []) := io_plain (by decide +kernel) rfl
theorem r_X8_order_48 : IOK WB AD SR FW TB md_X8_order 48 (.iload 4, 0, 0, 0, []) := io_plain (by decide +kernel) rfl
theorem r_X8_order_50 : IOK WB AD SR FW TB md_X8_order 50 (.iadd, 0, 0, 0, []) := io_plain (by decide +kernel) rfl
theorem r_X8_order_51 : IOK WB AD SR FW TB md_X8_order 51 (.iaload, 0, 0, 0, []) := io_plain (by decide +kernel) rfl
theorem r_X8_order_52 : IOK WB AD SR FW TB md_X8_order 52 (.isub, 0, 0, 0, []) := io_plain (by decide +kernel) rfl
theorem r_X8_order_53 : IOK WB AD SR FW TB md_X8_order 53 (.ireturn, 0, 0, 0, []) := io_plain (by decide +kernel) rfl
theorem r_X8_order_54 : IOK WB AD SR FW TB md_X8_order 54 (.iload_n 3, 0, 0, 0, []) := io_plain (by decide +kernel) rfl
theorem r_X8_order_55 : IOK WB AD SR FW TB md_X8_order 55 (.iload 5, 0, 0, 0, []) := io_plain (by decide +kernel) rfl
theorem r_X8_order_57 : IOK WB AD SR FW TB md_X8_order 57 (.bipush 32, 0, 0, 0, []) := io_plain (by decide +kernel) rfl
theorem r_X8_order_59 : IOK WB AD SR FW TB md_X8_order 59 (.if_icmp .ge 7, 0, 0, 0, []) := io_plain (by decide +kernel) rfl
theorem r_X8_order_66 : IOK WB AD SR FW TB md_X8_order 66 (.iload 5, 0, 0, 0, []) := io_plain (by decide +kernel) rfl
theorem r_X8_order_68 : IOK WB AD SR FW TB md_X8_order 68 (.bipush 8, 0, 0, 0, []) := io_plain (by decide +kernel) rfl
theorem r_X8_order_70 : IOK WB AD SR FW TB md_X8_order 70 (.irem, 0, 0, 0, []) := io_plain (by decide +kernel) rfl
theorem r_X8_order_71 : IOK WB AD SR FW TB md_X8_order 71 (.iconst 1, 0, 0, 0, []) := io_plain (by decide +kernel) rfl
theorem r_X8_order_72 : IOK WB AD SR FW TB md_X8_order 72 (.isub, 0, 0, 0, []) := io_plain (by decide +kernel) rfl
theorem r_X8_order_73 : IOK WB AD SR FW TB md_X8_order 73 (.iadd, 0, 0, 0, []) := io_plain (by decide +kernel) rfl
theorem r_X8_order_74 : IOK WB AD SR FW TB md_X8_order 74 (.istore_n 3, 0, 0, 0, []) := io_plain (by decide +kernel) rfl
theorem r_X8_order_75 : IOK WB AD SR FW TB md_X8_order 75 (.iinc 4 1, 0, 0, 0, []) := io_plain (by decide +kernel) rfl
theorem r_X8_order_78 : IOK WB AD SR FW TB md_X8_order 78 (.goto (-73), 0, 0, 0, []) := io_plain (by decide +kernel) rfl
theorem r_X8_order_81 : IOK WB AD SR FW TB md_X8_order 81 (.iconst 0, 0, 0, 0, []) := io_plain (by decide +kernel) rfl
theorem r_X8_order_82 : IOK WB AD SR FW TB md_X8_order 82 (.ireturn, 0, 0, 0, []) := io_plain (by decide +kernel) rfl
set_option maxRecDepth 100000 in
theorem ok_X8_order_0 : ∀ q ∈ tl_X8_order, IOK WB AD SR FW TB md_X8_order q.1 q.2 := fun _ h => absurd h List.not_mem_nil
set_option maxRecDepth 100000 in
theorem tq_X8_order_0 : tf_X8_order = tl_X8_order.map (fun q => (q.1, stepOf NPf md_X8_order q.2)) := rfl
theorem ro_X8_order : RowsOK (md_X8_order, tl_X8_order) tf_X8_order := ⟨tq_X8_order_0, ok_X8_order_0⟩
theorem r_X8_settle_0 : IOK WB AD SR FW TB md_X8_settle 0 (.iload_n 2, 0, 0, 0, []) := io_plain (by decide +kernel) rfl
theorem r_X8_settle_1 : IOK WB AD SR FW TB md_X8_settle 1 (.iload_n 1, 0, 0, 0, []) := io_plain (by decide +kernel) rfl
theorem r_X8_settle_2 : IOK WB AD SR FW TB md_X8_settle 2 (.if_icmp .ge 10, 0, 0, 0, []) := io_plain (by decide +kernel) rfl
theorem r_X8_settle_5 : IOK WB AD SR FW TB md_X8_settle 5 (.aload_n 0, 0, 0, 0, []) := io_plain (by decide +kernel) rfl
theorem r_X8_settle_6 : IOK WB AD SR FW TB md_X8_settle 6 (.iload_n 1, 0, 0, 0, []) := io_plain (by decide +kernel) rfl
theorem r_X8_settle_7 : IOK WB AD SR FW TB md_X8_settle 7 (.putfield 15, 8, 2, 0, []) := io_put (by decide +kernel) fo_RX8_15 po_RX8_0_8_2_0
theorem r_X8_settle_10 : IOK WB AD SR FW TB md_X8_settle 10 (.iload_n 2, 0, 0, 0, []) := io_plain (by decide +kernel) rfl
theorem r_X8_settle_11 : IOK WB AD SR FW TB md_X8_settle 11 (.ireturn, 0, 0, 0, []) := io_plain (by decide +kernel) rfl
theorem r_X8_settle_12 : IOK WB AD SR FW TB md_X8_settle 12 (.aload_n 0, 0, 0, 0, []) := io_plain (by decide +kernel) rfl
theorem r_X8_settle_13 : IOK WB AD SR FW TB md_X8_settle 13 (.iload_n 2, 0, 0, 0, []) := io_plain (by decide +kernel) rfl
theorem r_X8_settle_14 : IOK WB AD SR FW TB md_X8_settle 14 (.invokevirtual 57, 2, 8, 0, []) := io_virt (by decide +kernel) tb_X8_end (Or.inl (wb_3 191 rfl rfl)) in_X8_end se_X8_end ⟨_, rfl, rfl⟩ pr_X8_end (by decide)
theorem r_X8_settle_17 : IOK WB AD SR FW TB md_X8_settle 17 (.iload_n 2, 0, 0, 0, []) := io_plain (by decide +kernel) rfl
theorem r_X8_settle_18 : IOK WB AD SR FW TB md_X8_settle 18 (.isub, 0, 0, 0, []) := io_plain (by decide +kernel) rfl
theorem r_X8_settle_19 : IOK WB AD SR FW TB md_X8_settle 19 (.istore_n 3, 0, 0, 0, []) := io_plain (by decide +kernel) rfl
theorem r_X8_settle_20 : IOK WB AD SR FW TB md_X8_settle 20 (.aload_n 0, 0, 0, 0, []) := io_plain (by decide +kernel) rfl
theorem r_X8_settle_21 : IOK WB AD SR FW TB md_X8_settle 21 (.getfield 9, 8, 1, 2, []) := io_get (by decide +kernel) fo_RX8_9
theorem r_X8_settle_24 : IOK WB AD SR FW TB md_X8_settle 24 (.iload_n 2, 0, 0, 0, []) := io_plain (by decide +kernel) rfl
theorem r_X8_settle_25 : IOK WB AD SR FW TB md_X8_settle 25 (.aload_n 0, 0, 0, 0, []) := io_plain (by decide +kernel) rfl
theorem r_X8_settle_26 : IOK WB AD SR FW TB md_X8_settle 26 (.getfield 9, 8, 1, 2, []) := io_get (by decide +kernel) fo_RX8_9
theorem r_X8_settle_29 : IOK WB AD SR FW TB md_X8_settle 29 (.iload_n 1, 0, 0, 0, []) := io_plain (by decide +kernel) rfl
theorem r_X8_settle_30 : IOK WB AD SR FW TB md_X8_settle 30 (.iload_n 3, 0, 0, 0, []) := io_plain (by decide +kernel) rfl
theorem r_X8_settle_31 : IOK WB AD SR FW TB md_X8_settle 31 (.invokestatic 61, 1000, 0, 0, []) := io_copy (by decide +kernel) (wb_3 195 rfl rfl) cp_1 cp_2 cp_3
theorem r_X8_settle_34 : IOK WB AD SR FW TB md_X8_settle 34 (.aload_n 0, 0, 0, 0, []) := io_plain (by decide +kernel) rfl
theorem r_X8_settle_35 : IOK WB AD SR FW TB md_X8_settle 35 (.iload_n 1, 0, 0, 0, []) := io_plain (by decide +kernel) rfl
theorem r_X8_settle_36 : IOK WB AD SR FW TB md_X8_settle 36 (.iload_n 3, 0, 0, 0, []) := io_plain (by decide +kernel) rfl
theorem r_X8_settle_37 : IOK WB AD SR FW TB md_X8_settle 37 (.iadd, 0, 0, 0, []) := io_plain (by decide +kernel) rfl
theorem r_X8_settle_38 : IOK WB AD SR FW TB md_X8_settle 38 (.putfield 15, 8, 2, 0, []) := io_put (by decide +kernel) fo_RX8_15 po_RX8_0_8_2_0
theorem r_X8_settle_41 : IOK WB AD SR FW TB md_X8_settle 41 (.iload_n 1, 0, 0, 0, []) := io_plain (by decide +kernel) rfl
theorem r_X8_settle_42 : IOK WB AD SR FW TB md_X8_settle 42 (.ireturn, 0, 0, 0, []) := io_plain (by decide +kernel) rfl
set_option maxRecDepth 100000 in
theorem ok_X8_settle_0 : ∀ q ∈ tl_X8_settle, IOK WB AD SR FW TB md_X8_settle q.1 q.2 := fun _ h => absurd h List.not_mem_nil
set_option maxRecDepth 100000 in
theorem tq_X8_settle_0 : tf_X8_settle = tl_X8_settle.map (fun q => (q.1, stepOf NPf md_X8_settle q.2)) := rfl
theorem ro_X8_settle : RowsOK (md_X8_settle, tl_X8_settle) tf_X8_settle := ⟨tq_X8_settle_0, ok_X8_settle_0⟩
theorem r_X8_sortAt_0 : IOK WB AD SR FW TB md_X8_sortAt 0 (.aload_n 0, 0, 0, 0, []) := io_plain (by decide +kernel) rfl
theorem r_X8_sortAt_1 : IOK WB AD SR FW TB md_X8_sortAt 1 (.getfield 9, 8, 1, 2, []) := io_get (by decide +kernel) fo_RX8_9
theorem r_X8_sortAt_4 : IOK WB AD SR FW TB md_X8_sortAt 4 (.iload_n 1, 0, 0, 0, []) := io_plain (by decide +kernel) rfl
theorem r_X8_sortAt_5 : IOK WB AD SR FW TB md_X8_sortAt 5 (.iaload, 0, 0, 0, []) := io_plain (by decide +kernel) rfl
theorem r_X8_sortAt_6 : IOK WB AD SR FW TB md_X8_sortAt 6 (.istore_n 2, 0, 0, 0, []) := io_plain (by decide +kernel) rfl
theorem r_X8_sortAt_7 : IOK WB AD SR FW TB md_X8_sortAt 7 (.iload_n 2, 0, 0, 0, []) := io_plain (by decide +kernel) rfl
theorem r_X8_sortAt_8 : IOK WB AD SR FW TB md_X8_sortAt 8 (.bipush 32, 0, 0, 0, []) := io_plain (by decide +kernel) rfl
theorem r_X8_sortAt_10 : IOK WB AD SR FW TB md_X8_sortAt 10 (.if_icmp .ge 16, 0, 0, 0, []) := io_plain (by decide +kernel) rfl
theorem r_X8_sortAt_26 : IOK WB AD SR FW TB md_X8_sortAt 26 (.iload_n 2, 0, 0, 0, []) := io_plain (by decide +kernel) rfl
theorem r_X8_sortAt_27 : IOK WB AD SR FW TB md_X8_sortAt 27 (.invokestatic 84, 86, 10, 0, []) := io_stat (by decide +kernel) tb_X10_operatorIn (Or.inr ⟨rfl, rfl, "RuleForge", List.mem_of_getElem? (i := 6) rfl⟩) st_X10_operatorIn pr_X10_operatorIn
theorem r_X8_sortAt_30 : IOK WB AD SR FW TB md_X8_sortAt 30 (.istore_n 3, 0, 0, 0, []) := io_plain (by decide +kernel) rfl
theorem r_X8_sortAt_31 : IOK WB AD SR FW TB md_X8_sortAt 31 (.iload_n 2, 0, 0, 0, []) := io_plain (by decide +kernel) rfl
theorem r_X8_sortAt_32 : IOK WB AD SR FW TB md_X8_sortAt 32 (.bipush 8, 0, 0, 0, []) := io_plain (by decide +kernel) rfl
theorem r_X8_sortAt_34 : IOK WB AD SR FW TB md_X8_sortAt 34 (.irem, 0, 0, 0, []) := io_plain (by decide +kernel) rfl
theorem r_X8_sortAt_35 : IOK WB AD SR FW TB md_X8_sortAt 35 (.istore 4, 0, 0, 0, []) := io_plain (by decide +kernel) rfl
theorem r_X8_sortAt_37 : IOK WB AD SR FW TB md_X8_sortAt 37 (.iload_n 1, 0, 0, 0, []) := io_plain (by decide +kernel) rfl
theorem r_X8_sortAt_38 : IOK WB AD SR FW TB md_X8_sortAt 38 (.iconst 1, 0, 0, 0, []) := io_plain (by decide +kernel) rfl
theorem r_X8_sortAt_39 : IOK WB AD SR FW TB md_X8_sortAt 39 (.iadd, 0, 0, 0, []) := io_plain (by decide +kernel) rfl
theorem r_X8_sortAt_40 : IOK WB AD SR FW TB md_X8_sortAt 40 (.istore 5, 0, 0, 0, []) := io_plain (by decide +kernel) rfl
theorem r_X8_sortAt_42 : IOK WB AD SR FW TB md_X8_sortAt 42 (.iload 4, 0, 0, 0, []) := io_plain (by decide +kernel) rfl
theorem r_X8_sortAt_44 : IOK WB AD SR FW TB md_X8_sortAt 44 (.ifCond .le 12, 0, 0, 0, []) := io_plain (by decide +kernel) rfl
theorem r_X8_sortAt_47 : IOK WB AD SR FW TB md_X8_sortAt 47 (.aload_n 0, 0, 0, 0, []) := io_plain (by decide +kernel) rfl
theorem r_X8_sortAt_48 : IOK WB AD SR FW TB md_X8_sortAt 48 (.iload 5, 0, 0, 0, []) := io_plain (by decide +kernel) rfl
theorem r_X8_sortAt_50 : IOK WB AD SR FW TB md_X8_sortAt 50 (.invokevirtual 87, 75, 8, 0, []) := io_virt (by decide +kernel) tb_X8_sortAt (Or.inl (wb_4 10 rfl rfl)) in_X8_sortAt se_X8_sortAt ⟨_, rfl, rfl⟩ pr_X8_sortAt (by decide)
theorem r_X8_sortAt_53 : IOK WB AD SR FW TB md_X8_sortAt 53 (.goto 4, 0, 0, 0, []) := io_plain (by decide +kernel) rfl
theorem r_X8_sortAt_56 : IOK WB AD SR FW TB md_X8_sortAt 56 (.iconst (-1), 0, 0, 0, []) := io_plain (by decide +kernel) rfl
theorem r_X8_sortAt_57 : IOK WB AD SR FW TB md_X8_sortAt 57 (.istore 6, 0, 0, 0, []) := io_plain (by decide +kernel) rfl
theorem r_X8_sortAt_59 : IOK WB AD SR FW TB md_X8_sortAt 59 (.iload 4, 0, 0, 0, []) := io_plain (by decide +kernel) rfl
theorem r_X8_sortAt_61 : IOK WB AD SR FW TB md_X8_sortAt 61 (.ifCond .le 12, 0, 0, 0, []) := io_plain (by decide +kernel) rfl
theorem r_X8_sortAt_64 : IOK WB AD SR FW TB md_X8_sortAt 64 (.aload_n 0, 0, 0, 0, []) := io_plain (by decide +kernel) rfl
theorem r_X8_sortAt_65 : IOK WB AD SR FW TB md_X8_sortAt 65 (.iload 5, 0, 0, 0, []) := io_plain (by decide +kernel) rfl
theorem r_X8_sortAt_67 : IOK WB AD SR FW TB md_X8_sortAt 67 (.invokevirtual 57, 2, 8, 0, []) := io_virt (by decide +kernel) tb_X8_end (Or.inl (wb_3 191 rfl rfl)) in_X8_end se_X8_end ⟨_, rfl, rfl⟩ pr_X8_end (by decide)
theorem r_X8_sortAt_70 : IOK WB AD SR FW TB md_X8_sortAt 70 (.goto 5, 0, 0, 0, []) := io_plain (by decide +kernel) rfl
theorem r_X8_sortAt_73 : IOK WB AD SR FW TB md_X8_sortAt 73 (.iload 5, 0, 0, 0, []) := io_plain (by decide +kernel) rfl
theorem r_X8_sortAt_75 : IOK WB AD SR FW TB md_X8_sortAt 75 (.istore 5, 0, 0, 0, []) := io_plain (by decide +kernel) rfl
theorem r_X8_sortAt_77 : IOK WB AD SR FW TB md_X8_sortAt 77 (.iload 4, 0, 0, 0, []) := io_plain (by decide +kernel) rfl
theorem r_X8_sortAt_79 : IOK WB AD SR FW TB md_X8_sortAt 79 (.iconst 1, 0, 0, 0, []) := io_plain (by decide +kernel) rfl
theorem r_X8_sortAt_80 : IOK WB AD SR FW TB md_X8_sortAt 80 (.if_icmp .le 12, 0, 0, 0, []) := io_plain (by decide +kernel) rfl
theorem r_X8_sortAt_83 : IOK WB AD SR FW TB md_X8_sortAt 83 (.aload_n 0, 0, 0, 0, []) := io_plain (by decide +kernel) rfl
theorem r_X8_sortAt_84 : IOK WB AD SR FW TB md_X8_sortAt 84 (.iload 5, 0, 0, 0, []) := io_plain (by decide +kernel) rfl
theorem r_X8_sortAt_86 : IOK WB AD SR FW TB md_X8_sortAt 86 (.invokevirtual 87, 75, 8, 0, []) := io_virt (by decide +kernel) tb_X8_sortAt (Or.inl (wb_4 10 rfl rfl)) in_X8_sortAt se_X8_sortAt ⟨_, rfl, rfl⟩ pr_X8_sortAt (by decide)
theorem r_X8_sortAt_89 : IOK WB AD SR FW TB md_X8_sortAt 89 (.goto 4, 0, 0, 0, []) := io_plain (by decide +kernel) rfl
theorem r_X8_sortAt_92 : IOK WB AD SR FW TB md_X8_sortAt 92 (.iconst (-1), 0, 0, 0, []) := io_plain (by decide +kernel) rfl
theorem r_X8_sortAt_93 : IOK WB AD SR FW TB md_X8_sortAt 93 (.istore 7, 0, 0, 0, []) := io_plain (by decide +kernel) rfl
theorem r_X8_sortAt_95 : IOK WB AD SR FW TB md_X8_sortAt 95 (.iload 4, 0, 0, 0, []) := io_plain (by decide +kernel) rfl
theorem r_X8_sortAt_97 : IOK WB AD SR FW TB md_X8_sortAt 97 (.iconst 1, 0, 0, 0, []) := io_plain (by decide +kernel) rfl
theorem r_X8_sortAt_98 : IOK WB AD SR FW TB md_X8_sortAt 98 (.if_icmp .le 12, 0, 0, 0, []) := io_plain (by decide +kernel) rfl
theorem r_X8_sortAt_101 : IOK WB AD SR FW TB md_X8_sortAt 101 (.aload_n 0, 0, 0, 0, []) := io_plain (by decide +kernel) rfl
theorem r_X8_sortAt_102 : IOK WB AD SR FW TB md_X8_sortAt 102 (.iload 5, 0, 0, 0, []) := io_plain (by decide +kernel) rfl
theorem r_X8_sortAt_104 : IOK WB AD SR FW TB md_X8_sortAt 104 (.invokevirtual 57, 2, 8, 0, []) := io_virt (by decide +kernel) tb_X8_end (Or.inl (wb_3 191 rfl rfl)) in_X8_end se_X8_end ⟨_, rfl, rfl⟩ pr_X8_end (by decide)
theorem r_X8_sortAt_107 : IOK WB AD SR FW TB md_X8_sortAt 107 (.goto 5, 0, 0, 0, []) := io_plain (by decide +kernel) rfl
theorem r_X8_sortAt_110 : IOK WB AD SR FW TB md_X8_sortAt 110 (.iload 5, 0, 0, 0, []) := io_plain (by decide +kernel) rfl
theorem r_X8_sortAt_112 : IOK WB AD SR FW TB md_X8_sortAt 112 (.istore 5, 0, 0, 0, []) := io_plain (by decide +kernel) rfl
theorem r_X8_sortAt_114 : IOK WB AD SR FW TB md_X8_sortAt 114 (.aload_n 0, 0, 0, 0, []) := io_plain (by decide +kernel) rfl
theorem r_X8_sortAt_115 : IOK WB AD SR FW TB md_X8_sortAt 115 (.getfield 37, 8, 0, 2, []) := io_get (by decide +kernel) fo_RX8_37
theorem r_X8_sortAt_118 : IOK WB AD SR FW TB md_X8_sortAt 118 (.getfield 90, 7, 5, 2, []) := io_get (by decide +kernel) fo_RX8_90
theorem r_X8_sortAt_121 : IOK WB AD SR FW TB md_X8_sortAt 121 (.iload_n 3, 0, 0, 0, []) := io_plain (by decide +kernel) rfl
theorem r_X8_sortAt_122 : IOK WB AD SR FW TB md_X8_sortAt 122 (.iaload, 0, 0, 0, []) := io_plain (by decide +kernel) rfl
theorem r_X8_sortAt_123 : IOK WB AD SR FW TB md_X8_sortAt 123 (.iconst 2, 0, 0, 0, []) := io_plain (by decide +kernel) rfl
theorem r_X8_sortAt_124 : IOK WB AD SR FW TB md_X8_sortAt 124 (.if_icmp .ge 32, 0, 0, 0, []) := io_plain (by decide +kernel) rfl
theorem r_X8_sortAt_127 : IOK WB AD SR FW TB md_X8_sortAt 127 (.aload_n 0, 0, 0, 0, []) := io_plain (by decide +kernel) rfl
theorem r_X8_sortAt_128 : IOK WB AD SR FW TB md_X8_sortAt 128 (.getfield 37, 8, 0, 2, []) := io_get (by decide +kernel) fo_RX8_37
theorem r_X8_sortAt_131 : IOK WB AD SR FW TB md_X8_sortAt 131 (.iload_n 3, 0, 0, 0, []) := io_plain (by decide +kernel) rfl
theorem r_X8_sortAt_132 : IOK WB AD SR FW TB md_X8_sortAt 132 (.iload 6, 0, 0, 0, []) := io_plain (by decide +kernel) rfl
theorem r_X8_sortAt_134 : IOK WB AD SR FW TB md_X8_sortAt 134 (.iload 7, 0, 0, 0, []) := io_plain (by decide +kernel) rfl
theorem r_X8_sortAt_136 : IOK WB AD SR FW TB md_X8_sortAt 136 (.iload 4, 0, 0, 0, []) := io_plain (by decide +kernel) rfl
theorem r_X8_sortAt_138 : IOK WB AD SR FW TB md_X8_sortAt 138 (.iconst 2, 0, 0, 0, []) := io_plain (by decide +kernel) rfl
theorem r_X8_sortAt_139 : IOK WB AD SR FW TB md_X8_sortAt 139 (.if_icmp .le 12, 0, 0, 0, []) := io_plain (by decide +kernel) rfl
theorem r_X8_sortAt_151 : IOK WB AD SR FW TB md_X8_sortAt 151 (.iconst (-1), 0, 0, 0, []) := io_plain (by decide +kernel) rfl
theorem r_X8_sortAt_152 : IOK WB AD SR FW TB md_X8_sortAt 152 (.invokevirtual 93, 72, 7, 0, []) := io_virt (by decide +kernel) tb_X7_resultOf (Or.inl (wb_4 11 rfl rfl)) in_X7_resultOf se_X7_resultOf ⟨_, rfl, rfl⟩ pr_X7_resultOf (by decide)
theorem r_X8_sortAt_155 : IOK WB AD SR FW TB md_X8_sortAt 155 (.ireturn, 0, 0, 0, []) := io_plain (by decide +kernel) rfl
theorem r_X8_sortAt_156 : IOK WB AD SR FW TB md_X8_sortAt 156 (.aload_n 0, 0, 0, 0, []) := io_plain (by decide +kernel) rfl
theorem r_X8_sortAt_157 : IOK WB AD SR FW TB md_X8_sortAt 157 (.getfield 37, 8, 0, 2, []) := io_get (by decide +kernel) fo_RX8_37
theorem r_X8_sortAt_160 : IOK WB AD SR FW TB md_X8_sortAt 160 (.iload_n 3, 0, 0, 0, []) := io_plain (by decide +kernel) rfl
theorem r_X8_sortAt_161 : IOK WB AD SR FW TB md_X8_sortAt 161 (.iload 6, 0, 0, 0, []) := io_plain (by decide +kernel) rfl
theorem r_X8_sortAt_163 : IOK WB AD SR FW TB md_X8_sortAt 163 (.iload 7, 0, 0, 0, []) := io_plain (by decide +kernel) rfl
theorem r_X8_sortAt_165 : IOK WB AD SR FW TB md_X8_sortAt 165 (.iconst (-1), 0, 0, 0, []) := io_plain (by decide +kernel) rfl
theorem r_X8_sortAt_166 : IOK WB AD SR FW TB md_X8_sortAt 166 (.invokevirtual 93, 72, 7, 0, []) := io_virt (by decide +kernel) tb_X7_resultOf (Or.inl (wb_4 11 rfl rfl)) in_X7_resultOf se_X7_resultOf ⟨_, rfl, rfl⟩ pr_X7_resultOf (by decide)
theorem r_X8_sortAt_169 : IOK WB AD SR FW TB md_X8_sortAt 169 (.istore 8, 0, 0, 0, []) := io_plain (by decide +kernel) rfl
theorem r_X8_sortAt_171 : IOK WB AD SR FW TB md_X8_sortAt 171 (.iconst 2, 0, 0, 0, []) := io_plain (by decide +kernel) rfl
theorem r_X8_sortAt_172 : IOK WB AD SR FW TB md_X8_sortAt 172 (.istore 9, 0, 0, 0, []) := io_plain (by decide +kernel) rfl
theorem r_X8_sortAt_174 : IOK WB AD SR FW TB md_X8_sortAt 174 (.iload 9, 0, 0, 0, []) := io_plain (by decide +kernel) rfl
theorem r_X8_sortAt_176 : IOK WB AD SR FW TB md_X8_sortAt 176 (.iload 4, 0, 0, 0, []) := io_plain (by decide +kernel) rfl
theorem r_X8_sortAt_178 : IOK WB AD SR FW TB md_X8_sortAt 178 (.if_icmp .ge 36, 0, 0, 0, []) := io_plain (by decide +kernel) rfl
theorem r_X8_sortAt_181 : IOK WB AD SR FW TB md_X8_sortAt 181 (.aload_n 0, 0, 0, 0, []) := io_plain (by decide +kernel) rfl
theorem r_X8_sortAt_182 : IOK WB AD SR FW TB md_X8_sortAt 182 (.getfield 37, 8, 0, 2, []) := io_get (by decide +kernel) fo_RX8_37
theorem r_X8_sortAt_185 : IOK WB AD SR FW TB md_X8_sortAt 185 (.iload_n 3, 0, 0, 0, []) := io_plain (by decide +kernel) rfl
theorem r_X8_sortAt_186 : IOK WB AD SR FW TB md_X8_sortAt 186 (.iload 8, 0, 0, 0, []) := io_plain (by decide +kernel) rfl
theorem r_X8_sortAt_188 : IOK WB AD SR FW TB md_X8_sortAt 188 (.aload_n 0, 0, 0, 0, []) := io_plain (by decide +kernel) rfl
theorem r_X8_sortAt_189 : IOK WB AD SR FW TB md_X8_sortAt 189 (.iload 5, 0, 0, 0, []) := io_plain (by decide +kernel) rfl
theorem r_X8_sortAt_191 : IOK WB AD SR FW TB md_X8_sortAt 191 (.invokevirtual 87, 75, 8, 0, []) := io_virt (by decide +kernel) tb_X8_sortAt (Or.inl (wb_4 10 rfl rfl)) in_X8_sortAt se_X8_sortAt ⟨_, rfl, rfl⟩ pr_X8_sortAt (by decide)
theorem r_X8_sortAt_194 : IOK WB AD SR FW TB md_X8_sortAt 194 (.iconst (-1), 0, 0, 0, []) := io_plain (by decide +kernel) rfl
theorem r_X8_sortAt_195 : IOK WB AD SR FW TB md_X8_sortAt 195 (.invokevirtual 93, 72, 7, 0, []) := io_virt (by decide +kernel) tb_X7_resultOf (Or.inl (wb_4 11 rfl rfl)) in_X7_resultOf se_X7_resultOf ⟨_, rfl, rfl⟩ pr_X7_resultOf (by decide)
theorem r_X8_sortAt_198 : IOK WB AD SR FW TB md_X8_sortAt 198 (.istore 8, 0, 0, 0, []) := io_plain (by decide +kernel) rfl
theorem r_X8_sortAt_200 : IOK WB AD SR FW TB md_X8_sortAt 200 (.aload_n 0, 0, 0, 0, []) := io_plain (by decide +kernel) rfl
theorem r_X8_sortAt_201 : IOK WB AD SR FW TB md_X8_sortAt 201 (.iload 5, 0, 0, 0, []) := io_plain (by decide +kernel) rfl
theorem r_X8_sortAt_203 : IOK WB AD SR FW TB md_X8_sortAt 203 (.invokevirtual 57, 2, 8, 0, []) := io_virt (by decide +kernel) tb_X8_end (Or.inl (wb_3 191 rfl rfl)) in_X8_end se_X8_end ⟨_, rfl, rfl⟩ pr_X8_end (by decide)
theorem r_X8_sortAt_206 : IOK WB AD SR FW TB md_X8_sortAt 206 (.istore 5, 0, 0, 0, []) := io_plain (by decide +kernel) rfl
theorem r_X8_sortAt_208 : IOK WB AD SR FW TB md_X8_sortAt 208 (.iinc 9 1, 0, 0, 0, []) := io_plain (by decide +kernel) rfl
theorem r_X8_sortAt_211 : IOK WB AD SR FW TB md_X8_sortAt 211 (.goto (-37), 0, 0, 0, []) := io_plain (by decide +kernel) rfl
theorem r_X8_sortAt_214 : IOK WB AD SR FW TB md_X8_sortAt 214 (.iload 8, 0, 0, 0, []) := io_plain (by decide +kernel) rfl
theorem r_X8_sortAt_216 : IOK WB AD SR FW TB md_X8_sortAt 216 (.ireturn, 0, 0, 0, []) := io_plain (by decide +kernel) rfl
set_option maxRecDepth 100000 in
theorem ok_X8_sortAt_0 : ∀ q ∈ tl_X8_sortAt, IOK WB AD SR FW TB md_X8_sortAt q.1 q.2 := fun _ h => absurd h List.not_mem_nil
set_option maxRecDepth 100000 in
theorem tq_X8_sortAt_0 : tf_X8_sortAt = tl_X8_sortAt.map (fun q => (q.1, stepOf NPf md_X8_sortAt q.2)) := rfl
theorem ro_X8_sortAt : RowsOK (md_X8_sortAt, tl_X8_sortAt) tf_X8_sortAt := ⟨tq_X8_sortAt_0, ok_X8_sortAt_0⟩
theorem r_X8_rebuild_0 : IOK WB AD SR FW TB md_X8_rebuild 0 (.iload_n 1, 0, 0, 0, []) := io_plain (by decide +kernel) rfl
theorem r_X8_rebuild_1 : IOK WB AD SR FW TB md_X8_rebuild 1 (.aload_n 0, 0, 0, 0, []) := io_plain (by decide +kernel) rfl
theorem r_X8_rebuild_2 : IOK WB AD SR FW TB md_X8_rebuild 2 (.getfield 31, 8, 8, 0, []) := io_get (by decide +kernel) fo_RX8_31
theorem r_X8_rebuild_5 : IOK WB AD SR FW TB md_X8_rebuild 5 (.if_icmp .ne 8, 0, 0, 0, []) := io_plain (by decide +kernel) rfl
theorem r_X8_rebuild_13 : IOK WB AD SR FW TB md_X8_rebuild 13 (.aload_n 0, 0, 0, 0, []) := io_plain (by decide +kernel) rfl
theorem r_X8_rebuild_14 : IOK WB AD SR FW TB md_X8_rebuild 14 (.getfield 9, 8, 1, 2, []) := io_get (by decide +kernel) fo_RX8_9
theorem r_X8_rebuild_17 : IOK WB AD SR FW TB md_X8_rebuild 17 (.iload_n 1, 0, 0, 0, []) := io_plain (by decide +kernel) rfl
theorem r_X8_rebuild_18 : IOK WB AD SR FW TB md_X8_rebuild 18 (.iaload, 0, 0, 0, []) := io_plain (by decide +kernel) rfl
theorem r_X8_rebuild_19 : IOK WB AD SR FW TB md_X8_rebuild 19 (.istore_n 2, 0, 0, 0, []) := io_plain (by decide +kernel) rfl
theorem r_X8_rebuild_20 : IOK WB AD SR FW TB md_X8_rebuild 20 (.iload_n 2, 0, 0, 0, []) := io_plain (by decide +kernel) rfl
theorem r_X8_rebuild_21 : IOK WB AD SR FW TB md_X8_rebuild 21 (.bipush 32, 0, 0, 0, []) := io_plain (by decide +kernel) rfl
theorem r_X8_rebuild_23 : IOK WB AD SR FW TB md_X8_rebuild 23 (.if_icmp .ge 24, 0, 0, 0, []) := io_plain (by decide +kernel) rfl
theorem r_X8_rebuild_26 : IOK WB AD SR FW TB md_X8_rebuild 26 (.aload_n 0, 0, 0, 0, []) := io_plain (by decide +kernel) rfl
theorem r_X8_rebuild_27 : IOK WB AD SR FW TB md_X8_rebuild 27 (.getfield 28, 8, 7, 2, []) := io_get (by decide +kernel) fo_RX8_28
theorem r_X8_rebuild_30 : IOK WB AD SR FW TB md_X8_rebuild 30 (.iload_n 2, 0, 0, 0, []) := io_plain (by decide +kernel) rfl
theorem r_X8_rebuild_31 : IOK WB AD SR FW TB md_X8_rebuild 31 (.iaload, 0, 0, 0, []) := io_plain (by decide +kernel) rfl
theorem r_X8_rebuild_32 : IOK WB AD SR FW TB md_X8_rebuild 32 (.iconst (-1), 0, 0, 0, []) := io_plain (by decide +kernel) rfl
theorem r_X8_rebuild_33 : IOK WB AD SR FW TB md_X8_rebuild 33 (.if_icmp .ne 7, 0, 0, 0, []) := io_plain (by decide +kernel) rfl
theorem r_X8_rebuild_40 : IOK WB AD SR FW TB md_X8_rebuild 40 (.aload_n 0, 0, 0, 0, []) := io_plain (by decide +kernel) rfl
theorem r_X8_rebuild_41 : IOK WB AD SR FW TB md_X8_rebuild 41 (.getfield 28, 8, 7, 2, []) := io_get (by decide +kernel) fo_RX8_28
theorem r_X8_rebuild_44 : IOK WB AD SR FW TB md_X8_rebuild 44 (.iload_n 2, 0, 0, 0, []) := io_plain (by decide +kernel) rfl
theorem r_X8_rebuild_45 : IOK WB AD SR FW TB md_X8_rebuild 45 (.iaload, 0, 0, 0, []) := io_plain (by decide +kernel) rfl
theorem r_X8_rebuild_46 : IOK WB AD SR FW TB md_X8_rebuild 46 (.ireturn, 0, 0, 0, []) := io_plain (by decide +kernel) rfl
theorem r_X8_rebuild_47 : IOK WB AD SR FW TB md_X8_rebuild 47 (.aload_n 0, 0, 0, 0, []) := io_plain (by decide +kernel) rfl
theorem r_X8_rebuild_48 : IOK WB AD SR FW TB md_X8_rebuild 48 (.getfield 41, 8, 4, 0, []) := io_get (by decide +kernel) fo_RX8_41
theorem r_X8_rebuild_51 : IOK WB AD SR FW TB md_X8_rebuild 51 (.istore_n 3, 0, 0, 0, []) := io_plain (by decide +kernel) rfl
theorem r_X8_rebuild_52 : IOK WB AD SR FW TB md_X8_rebuild 52 (.iload_n 1, 0, 0, 0, []) := io_plain (by decide +kernel) rfl
theorem r_X8_rebuild_53 : IOK WB AD SR FW TB md_X8_rebuild 53 (.iconst 1, 0, 0, 0, []) := io_plain (by decide +kernel) rfl
theorem r_X8_rebuild_54 : IOK WB AD SR FW TB md_X8_rebuild 54 (.iadd, 0, 0, 0, []) := io_plain (by decide +kernel) rfl
theorem r_X8_rebuild_55 : IOK WB AD SR FW TB md_X8_rebuild 55 (.istore 4, 0, 0, 0, []) := io_plain (by decide +kernel) rfl
theorem r_X8_rebuild_57 : IOK WB AD SR FW TB md_X8_rebuild 57 (.iconst 0, 0, 0, 0, []) := io_plain (by decide +kernel) rfl
theorem r_X8_rebuild_58 : IOK WB AD SR FW TB md_X8_rebuild 58 (.istore 5, 0, 0, 0, []) := io_plain (by decide +kernel) rfl
theorem r_X8_rebuild_60 : IOK WB AD SR FW TB md_X8_rebuild 60 (.iload 5, 0, 0, 0, []) := io_plain (by decide +kernel) rfl
theorem r_X8_rebuild_62 : IOK WB AD SR FW TB md_X8_rebuild 62 (.iload_n 2, 0, 0, 0, []) := io_plain (by decide +kernel) rfl
theorem r_X8_rebuild_63 : IOK WB AD SR FW TB md_X8_rebuild 63 (.bipush 8, 0, 0, 0, []) := io_plain (by decide +kernel) rfl
theorem r_X8_rebuild_65 : IOK WB AD SR FW TB md_X8_rebuild 65 (.irem, 0, 0, 0, []) := io_plain (by decide +kernel) rfl
theorem r_X8_rebuild_66 : IOK WB AD SR FW TB md_X8_rebuild 66 (.if_icmp .ge 43, 0, 0, 0, []) := io_plain (by decide +kernel) rfl
theorem r_X8_rebuild_69 : IOK WB AD SR FW TB md_X8_rebuild 69 (.aload_n 0, 0, 0, 0, []) := io_plain (by decide +kernel) rfl
theorem r_X8_rebuild_70 : IOK WB AD SR FW TB md_X8_rebuild 70 (.iload 4, 0, 0, 0, []) := io_plain (by decide +kernel) rfl
theorem r_X8_rebuild_72 : IOK WB AD SR FW TB md_X8_rebuild 72 (.invokevirtual 107, 76, 8, 0, []) := io_virt (by decide +kernel) tb_X8_rebuild (Or.inl (wb_4 202 rfl rfl)) in_X8_rebuild se_X8_rebuild ⟨_, rfl, rfl⟩ pr_X8_rebuild (by decide)
theorem r_X8_rebuild_75 : IOK WB AD SR FW TB md_X8_rebuild 75 (.istore 6, 0, 0, 0, []) := io_plain (by decide +kernel) rfl
theorem r_X8_rebuild_77 : IOK WB AD SR FW TB md_X8_rebuild 77 (.iload 6, 0, 0, 0, []) := io_plain (by decide +kernel) rfl
theorem r_X8_rebuild_79 : IOK WB AD SR FW TB md_X8_rebuild 79 (.ifCond .ge 10, 0, 0, 0, []) := io_plain (by decide +kernel) rfl
theorem r_X8_rebuild_89 : IOK WB AD SR FW TB md_X8_rebuild 89 (.aload_n 0, 0, 0, 0, []) := io_plain (by decide +kernel) rfl
theorem r_X8_rebuild_90 : IOK WB AD SR FW TB md_X8_rebuild 90 (.iload 6, 0, 0, 0, []) := io_plain (by decide +kernel) rfl
theorem r_X8_rebuild_92 : IOK WB AD SR FW TB md_X8_rebuild 92 (.invokevirtual 110, 19, 8, 0, []) := io_virt (by decide +kernel) tb_X8_await (Or.inl (wb_4 203 rfl rfl)) in_X8_await se_X8_await ⟨_, rfl, rfl⟩ pr_X8_await (by decide)
theorem r_X8_rebuild_95 : IOK WB AD SR FW TB md_X8_rebuild 95 (.aload_n 0, 0, 0, 0, []) := io_plain (by decide +kernel) rfl
theorem r_X8_rebuild_96 : IOK WB AD SR FW TB md_X8_rebuild 96 (.iload 4, 0, 0, 0, []) := io_plain (by decide +kernel) rfl
theorem r_X8_rebuild_98 : IOK WB AD SR FW TB md_X8_rebuild 98 (.invokevirtual 57, 2, 8, 0, []) := io_virt (by decide +kernel) tb_X8_end (Or.inl (wb_3 191 rfl rfl)) in_X8_end se_X8_end ⟨_, rfl, rfl⟩ pr_X8_end (by decide)
theorem r_X8_rebuild_101 : IOK WB AD SR FW TB md_X8_rebuild 101 (.istore 4, 0, 0, 0, []) := io_plain (by decide +kernel) rfl
theorem r_X8_rebuild_103 : IOK WB AD SR FW TB md_X8_rebuild 103 (.iinc 5 1, 0, 0, 0, []) := io_plain (by decide +kernel) rfl
theorem r_X8_rebuild_106 : IOK WB AD SR FW TB md_X8_rebuild 106 (.goto (-46), 0, 0, 0, []) := io_plain (by decide +kernel) rfl
theorem r_X8_rebuild_109 : IOK WB AD SR FW TB md_X8_rebuild 109 (.iload_n 2, 0, 0, 0, []) := io_plain (by decide +kernel) rfl
theorem r_X8_rebuild_110 : IOK WB AD SR FW TB md_X8_rebuild 110 (.invokestatic 84, 86, 10, 0, []) := io_stat (by decide +kernel) tb_X10_operatorIn (Or.inr ⟨rfl, rfl, "RuleForge", List.mem_of_getElem? (i := 6) rfl⟩) st_X10_operatorIn pr_X10_operatorIn
theorem r_X8_rebuild_113 : IOK WB AD SR FW TB md_X8_rebuild 113 (.istore 5, 0, 0, 0, []) := io_plain (by decide +kernel) rfl
theorem r_X8_rebuild_115 : IOK WB AD SR FW TB md_X8_rebuild 115 (.aload_n 0, 0, 0, 0, []) := io_plain (by decide +kernel) rfl
theorem r_X8_rebuild_116 : IOK WB AD SR FW TB md_X8_rebuild 116 (.aload_n 0, 0, 0, 0, []) := io_plain (by decide +kernel) rfl
theorem r_X8_rebuild_117 : IOK WB AD SR FW TB md_X8_rebuild 117 (.getfield 44, 8, 10, 1, []) := io_get (by decide +kernel) fo_RX8_44
theorem r_X8_rebuild_120 : IOK WB AD SR FW TB md_X8_rebuild 120 (.ifCond .eq 16, 0, 0, 0, []) := io_plain (by decide +kernel) rfl
theorem r_X8_rebuild_136 : IOK WB AD SR FW TB md_X8_rebuild 136 (.iload 5, 0, 0, 0, []) := io_plain (by decide +kernel) rfl
theorem r_X8_rebuild_138 : IOK WB AD SR FW TB md_X8_rebuild 138 (.iload_n 3, 0, 0, 0, []) := io_plain (by decide +kernel) rfl
theorem r_X8_rebuild_139 : IOK WB AD SR FW TB md_X8_rebuild 139 (.invokevirtual 117, 3, 8, 0, []) := io_virt (by decide +kernel) tb_X8_putOn (Or.inl (wb_4 204 rfl rfl)) in_X8_putOn se_X8_putOn ⟨_, rfl, rfl⟩ pr_X8_putOn (by decide)
theorem r_X8_rebuild_142 : IOK WB AD SR FW TB md_X8_rebuild 142 (.ireturn, 0, 0, 0, []) := io_plain (by decide +kernel) rfl
set_option maxRecDepth 100000 in
theorem ok_X8_rebuild_0 : ∀ q ∈ tl_X8_rebuild, IOK WB AD SR FW TB md_X8_rebuild q.1 q.2 := fun _ h => absurd h List.not_mem_nil
set_option maxRecDepth 100000 in
theorem tq_X8_rebuild_0 : tf_X8_rebuild = tl_X8_rebuild.map (fun q => (q.1, stepOf NPf md_X8_rebuild q.2)) := rfl
theorem ro_X8_rebuild : RowsOK (md_X8_rebuild, tl_X8_rebuild) tf_X8_rebuild := ⟨tq_X8_rebuild_0, ok_X8_rebuild_0⟩
theorem r_X10_sortOf_0 : IOK WB AD SR FW TB md_X10_sortOf 0 (.aload_n 0, 0, 0, 0, []) := io_plain (by decide +kernel) rfl
theorem r_X10_sortOf_1 : IOK WB AD SR FW TB md_X10_sortOf 1 (.getfield 160, 10, 8, 0, []) := io_get (by decide +kernel) fo_RX10_160
theorem r_X10_sortOf_4 : IOK WB AD SR FW TB md_X10_sortOf 4 (.ifCond .ne 13, 0, 0, 0, []) := io_plain (by decide +kernel) rfl
theorem r_X10_sortOf_17 : IOK WB AD SR FW TB md_X10_sortOf 17 (.aload_n 0, 0, 0, 0, []) := io_plain (by decide +kernel) rfl
theorem r_X10_sortOf_18 : IOK WB AD SR FW TB md_X10_sortOf 18 (.getfield 21, 10, 1, 2, []) := io_get (by decide +kernel) fo_RX10_21
theorem r_X10_sortOf_21 : IOK WB AD SR FW TB md_X10_sortOf 21 (.aload_n 0, 0, 0, 0, []) := io_plain (by decide +kernel) rfl
theorem r_X10_sortOf_22 : IOK WB AD SR FW TB md_X10_sortOf 22 (.invokevirtual 203, 84, 10, 0, []) := io_virt (by decide +kernel) tb_X10_topAt (Or.inl (wb_3 239 rfl rfl)) in_X10_topAt se_X10_topAt ⟨_, rfl, rfl⟩ pr_X10_topAt (by decide)
theorem r_X10_sortOf_25 : IOK WB AD SR FW TB md_X10_sortOf 25 (.invokevirtual 207, 75, 8, 0, []) := io_virt (by decide +kernel) tb_X8_sortAt (Or.inr ⟨rfl, rfl, "RuleForge", List.mem_of_getElem? (i := 7) rfl⟩) in_X8_sortAt se_X8_sortAt ⟨_, rfl, rfl⟩ pr_X8_sortAt (by decide)
theorem r_X10_sortOf_28 : IOK WB AD SR FW TB md_X10_sortOf 28 (.ireturn, 0, 0, 0, []) := io_plain (by decide +kernel) rfl
set_option maxRecDepth 100000 in
theorem ok_X10_sortOf_0 : ∀ q ∈ tl_X10_sortOf, IOK WB AD SR FW TB md_X10_sortOf q.1 q.2 := fun _ h => absurd h List.not_mem_nil
set_option maxRecDepth 100000 in
theorem tq_X10_sortOf_0 : tf_X10_sortOf = tl_X10_sortOf.map (fun q => (q.1, stepOf NPf md_X10_sortOf q.2)) := rfl
theorem ro_X10_sortOf : RowsOK (md_X10_sortOf, tl_X10_sortOf) tf_X10_sortOf := ⟨tq_X10_sortOf_0, ok_X10_sortOf_0⟩
theorem r_X10_code_0 : IOK WB AD SR FW TB md_X10_code 0 (.aload_n 0, 0, 0, 0, []) := io_plain (by decide +kernel) rfl
theorem r_X10_code_1 : IOK WB AD SR FW TB md_X10_code 1 (.getfield 160, 10, 8, 0, []) := io_get (by decide +kernel) fo_RX10_160
theorem r_X10_code_4 : IOK WB AD SR FW TB md_X10_code 4 (.ifCond .ne 13, 0, 0, 0, []) := io_plain (by decide +kernel) rfl
set_option maxRecDepth 100000 in
theorem r_X10_code_7 : IOK WB AD SR FW TB md_X10_code 7 (.new 82, 100, 201, 86, []) := io_thx 0 rfl (thk_mk RX10 rfl 82 201 86 0 "there is no top" false (List.mem_of_getElem? (i := 0) rfl) (by decide) (by decide +kernel) (by decide +kernel) ⟨by decide +kernel, by decide +kernel, by decide +kernel⟩ (wb_3 37 rfl rfl) (wb_1 16 rfl rfl) at_RX10_86_0 rfl) (by decide +kernel)
theorem r_X10_code_10 : IOK WB AD SR FW TB md_X10_code 10 (.dup, 0, 0, 0, []) := io_plain (by decide +kernel) rfl
theorem r_X10_code_17 : IOK WB AD SR FW TB md_X10_code 17 (.aload_n 0, 0, 0, 0, []) := io_plain (by decide +kernel) rfl
theorem r_X10_code_18 : IOK WB AD SR FW TB md_X10_code 18 (.invokevirtual 203, 84, 10, 0, []) := io_virt (by decide +kernel) tb_X10_topAt (Or.inl (wb_3 239 rfl rfl)) in_X10_topAt se_X10_topAt ⟨_, rfl, rfl⟩ pr_X10_topAt (by decide)
theorem r_X10_code_21 : IOK WB AD SR FW TB md_X10_code 21 (.istore_n 2, 0, 0, 0, []) := io_plain (by decide +kernel) rfl
theorem r_X10_code_22 : IOK WB AD SR FW TB md_X10_code 22 (.iload_n 1, 0, 0, 0, []) := io_plain (by decide +kernel) rfl
theorem r_X10_code_23 : IOK WB AD SR FW TB md_X10_code 23 (.ifCond .lt 17, 0, 0, 0, []) := io_plain (by decide +kernel) rfl
theorem r_X10_code_26 : IOK WB AD SR FW TB md_X10_code 26 (.iload_n 1, 0, 0, 0, []) := io_plain (by decide +kernel) rfl
theorem r_X10_code_27 : IOK WB AD SR FW TB md_X10_code 27 (.aload_n 0, 0, 0, 0, []) := io_plain (by decide +kernel) rfl
theorem r_X10_code_28 : IOK WB AD SR FW TB md_X10_code 28 (.getfield 21, 10, 1, 2, []) := io_get (by decide +kernel) fo_RX10_21
theorem r_X10_code_31 : IOK WB AD SR FW TB md_X10_code 31 (.iload_n 2, 0, 0, 0, []) := io_plain (by decide +kernel) rfl
theorem r_X10_code_32 : IOK WB AD SR FW TB md_X10_code 32 (.invokevirtual 210, 2, 8, 0, []) := io_virt (by decide +kernel) tb_X8_end (Or.inl (wb_4 236 rfl rfl)) in_X8_end se_X8_end ⟨_, rfl, rfl⟩ pr_X8_end (by decide)
theorem r_X10_code_35 : IOK WB AD SR FW TB md_X10_code 35 (.iload_n 2, 0, 0, 0, []) := io_plain (by decide +kernel) rfl
theorem r_X10_code_36 : IOK WB AD SR FW TB md_X10_code 36 (.isub, 0, 0, 0, []) := io_plain (by decide +kernel) rfl
theorem r_X10_code_37 : IOK WB AD SR FW TB md_X10_code 37 (.if_icmp .lt 13, 0, 0, 0, []) := io_plain (by decide +kernel) rfl
set_option maxRecDepth 100000 in
theorem r_X10_code_40 : IOK WB AD SR FW TB md_X10_code 40 (.new 93, 101, 213, 97, []) := io_thx 1 rfl (thk_mk RX10 rfl 93 213 97 1 "there is no such place" false (List.mem_of_getElem? (i := 1) rfl) (by decide) (by decide +kernel) (by decide +kernel) ⟨by decide +kernel, by decide +kernel, by decide +kernel⟩ (wb_3 113 rfl rfl) (wb_1 17 rfl rfl) at_RX10_97_1 rfl) (by decide +kernel)
theorem r_X10_code_43 : IOK WB AD SR FW TB md_X10_code 43 (.dup, 0, 0, 0, []) := io_plain (by decide +kernel) rfl
theorem r_X10_code_50 : IOK WB AD SR FW TB md_X10_code 50 (.aload_n 0, 0, 0, 0, []) := io_plain (by decide +kernel) rfl
theorem r_X10_code_51 : IOK WB AD SR FW TB md_X10_code 51 (.getfield 21, 10, 1, 2, []) := io_get (by decide +kernel) fo_RX10_21
theorem r_X10_code_54 : IOK WB AD SR FW TB md_X10_code 54 (.getfield 215, 8, 1, 2, []) := io_get (by decide +kernel) fo_RX10_215
theorem r_X10_code_57 : IOK WB AD SR FW TB md_X10_code 57 (.iload_n 2, 0, 0, 0, []) := io_plain (by decide +kernel) rfl
theorem r_X10_code_58 : IOK WB AD SR FW TB md_X10_code 58 (.iload_n 1, 0, 0, 0, []) := io_plain (by decide +kernel) rfl
theorem r_X10_code_59 : IOK WB AD SR FW TB md_X10_code 59 (.iadd, 0, 0, 0, []) := io_plain (by decide +kernel) rfl
theorem r_X10_code_60 : IOK WB AD SR FW TB md_X10_code 60 (.iaload, 0, 0, 0, []) := io_plain (by decide +kernel) rfl
theorem r_X10_code_61 : IOK WB AD SR FW TB md_X10_code 61 (.istore_n 3, 0, 0, 0, []) := io_plain (by decide +kernel) rfl
theorem r_X10_code_62 : IOK WB AD SR FW TB md_X10_code 62 (.iload_n 3, 0, 0, 0, []) := io_plain (by decide +kernel) rfl
theorem r_X10_code_63 : IOK WB AD SR FW TB md_X10_code 63 (.bipush 32, 0, 0, 0, []) := io_plain (by decide +kernel) rfl
theorem r_X10_code_65 : IOK WB AD SR FW TB md_X10_code 65 (.if_icmp .ge 11, 0, 0, 0, []) := io_plain (by decide +kernel) rfl
theorem r_X10_code_76 : IOK WB AD SR FW TB md_X10_code 76 (.bipush 10, 0, 0, 0, []) := io_plain (by decide +kernel) rfl
theorem r_X10_code_78 : IOK WB AD SR FW TB md_X10_code 78 (.iload_n 3, 0, 0, 0, []) := io_plain (by decide +kernel) rfl
theorem r_X10_code_79 : IOK WB AD SR FW TB md_X10_code 79 (.invokestatic 218, 86, 10, 0, []) := io_stat (by decide +kernel) tb_X10_operatorIn (Or.inl (wb_4 238 rfl rfl)) st_X10_operatorIn pr_X10_operatorIn
theorem r_X10_code_82 : IOK WB AD SR FW TB md_X10_code 82 (.imul, 0, 0, 0, []) := io_plain (by decide +kernel) rfl
theorem r_X10_code_83 : IOK WB AD SR FW TB md_X10_code 83 (.iload_n 3, 0, 0, 0, []) := io_plain (by decide +kernel) rfl
theorem r_X10_code_84 : IOK WB AD SR FW TB md_X10_code 84 (.bipush 8, 0, 0, 0, []) := io_plain (by decide +kernel) rfl
theorem r_X10_code_86 : IOK WB AD SR FW TB md_X10_code 86 (.irem, 0, 0, 0, []) := io_plain (by decide +kernel) rfl
theorem r_X10_code_87 : IOK WB AD SR FW TB md_X10_code 87 (.iadd, 0, 0, 0, []) := io_plain (by decide +kernel) rfl
theorem r_X10_code_88 : IOK WB AD SR FW TB md_X10_code 88 (.ireturn, 0, 0, 0, []) := io_plain (by decide +kernel) rfl
set_option maxRecDepth 100000 in
theorem ok_X10_code_0 : ∀ q ∈ tl_X10_code, IOK WB AD SR FW TB md_X10_code q.1 q.2 := fun _ h => absurd h List.not_mem_nil
set_option maxRecDepth 100000 in
theorem tq_X10_code_0 : tf_X10_code = tl_X10_code.map (fun q => (q.1, stepOf NPf md_X10_code q.2)) := rfl
theorem ro_X10_code : RowsOK (md_X10_code, tl_X10_code) tf_X10_code := ⟨tq_X10_code_0, ok_X10_code_0⟩
theorem r_X10_matches_0 : IOK WB AD SR FW TB md_X10_matches 0 (.aload_n 0, 0, 0, 0, []) := io_plain (by decide +kernel) rfl
theorem r_X10_matches_1 : IOK WB AD SR FW TB md_X10_matches 1 (.invokevirtual 221, 85, 10, 0, []) := io_virt (by decide +kernel) tb_X10_hasPatternAndSubject (Or.inl (wb_5 14 rfl rfl)) in_X10_hasPatternAndSubject se_X10_hasPatternAndSubject ⟨_, rfl, rfl⟩ pr_X10_hasPatternAndSubject (by decide)
theorem r_X10_matches_4 : IOK WB AD SR FW TB md_X10_matches 4 (.ifCond .ne 13, 0, 0, 0, []) := io_plain (by decide +kernel) rfl
theorem r_X10_matches_17 : IOK WB AD SR FW TB md_X10_matches 17 (.aload_n 0, 0, 0, 0, []) := io_plain (by decide +kernel) rfl
theorem r_X10_matches_18 : IOK WB AD SR FW TB md_X10_matches 18 (.getfield 21, 10, 1, 2, []) := io_get (by decide +kernel) fo_RX10_21
theorem r_X10_matches_21 : IOK WB AD SR FW TB md_X10_matches 21 (.invokevirtual 173, 21, 8, 0, []) := io_virt (by decide +kernel) tb_X8_startAnew (Or.inl (wb_3 204 rfl rfl)) in_X8_startAnew se_X8_startAnew ⟨_, rfl, rfl⟩ pr_X8_startAnew (by decide)
theorem r_X10_matches_24 : IOK WB AD SR FW TB md_X10_matches 24 (.aload_n 0, 0, 0, 0, []) := io_plain (by decide +kernel) rfl
theorem r_X10_matches_25 : IOK WB AD SR FW TB md_X10_matches 25 (.getfield 37, 10, 3, 2, []) := io_get (by decide +kernel) fo_RX10_37
theorem r_X10_matches_28 : IOK WB AD SR FW TB md_X10_matches 28 (.aload_n 0, 0, 0, 0, []) := io_plain (by decide +kernel) rfl
theorem r_X10_matches_29 : IOK WB AD SR FW TB md_X10_matches 29 (.getfield 160, 10, 8, 0, []) := io_get (by decide +kernel) fo_RX10_160
theorem r_X10_matches_32 : IOK WB AD SR FW TB md_X10_matches 32 (.iconst 2, 0, 0, 0, []) := io_plain (by decide +kernel) rfl
theorem r_X10_matches_33 : IOK WB AD SR FW TB md_X10_matches 33 (.isub, 0, 0, 0, []) := io_plain (by decide +kernel) rfl
theorem r_X10_matches_34 : IOK WB AD SR FW TB md_X10_matches 34 (.invokestatic 176, 17, 10, 0, []) := io_stat (by decide +kernel) tb_X10_stackAt (Or.inl (wb_3 184 rfl rfl)) st_X10_stackAt pr_X10_stackAt
theorem r_X10_matches_37 : IOK WB AD SR FW TB md_X10_matches 37 (.aload_n 0, 0, 0, 0, []) := io_plain (by decide +kernel) rfl
theorem r_X10_matches_38 : IOK WB AD SR FW TB md_X10_matches 38 (.invokevirtual 203, 84, 10, 0, []) := io_virt (by decide +kernel) tb_X10_topAt (Or.inl (wb_3 239 rfl rfl)) in_X10_topAt se_X10_topAt ⟨_, rfl, rfl⟩ pr_X10_topAt (by decide)
theorem r_X10_matches_41 : IOK WB AD SR FW TB md_X10_matches 41 (.invokevirtual 226, 44, 3, 0, []) := io_virt (by decide +kernel) tb_X3_list (Or.inl (wb_4 216 rfl rfl)) in_X3_list se_X3_list ⟨_, rfl, rfl⟩ pr_X3_list (by decide)
theorem r_X10_matches_44 : IOK WB AD SR FW TB md_X10_matches 44 (.ireturn, 0, 0, 0, []) := io_plain (by decide +kernel) rfl
set_option maxRecDepth 100000 in
theorem ok_X10_matches_0 : ∀ q ∈ tl_X10_matches, IOK WB AD SR FW TB md_X10_matches q.1 q.2 := fun _ h => absurd h List.not_mem_nil
set_option maxRecDepth 100000 in
theorem tq_X10_matches_0 : tf_X10_matches = tl_X10_matches.map (fun q => (q.1, stepOf NPf md_X10_matches q.2)) := rfl
theorem ro_X10_matches : RowsOK (md_X10_matches, tl_X10_matches) tf_X10_matches := ⟨tq_X10_matches_0, ok_X10_matches_0⟩
theorem r_X10_matchesAnew_0 : IOK WB AD SR FW TB md_X10_matchesAnew 0 (.aload_n 0, 0, 0, 0, []) := io_plain (by decide +kernel) rfl
theorem r_X10_matchesAnew_1 : IOK WB AD SR FW TB md_X10_matchesAnew 1 (.invokevirtual 221, 85, 10, 0, []) := io_virt (by decide +kernel) tb_X10_hasPatternAndSubject (Or.inl (wb_5 14 rfl rfl)) in_X10_hasPatternAndSubject se_X10_hasPatternAndSubject ⟨_, rfl, rfl⟩ pr_X10_hasPatternAndSubject (by decide)
theorem r_X10_matchesAnew_4 : IOK WB AD SR FW TB md_X10_matchesAnew 4 (.ifCond .ne 13, 0, 0, 0, []) := io_plain (by decide +kernel) rfl
theorem r_X10_matchesAnew_17 : IOK WB AD SR FW TB md_X10_matchesAnew 17 (.aload_n 0, 0, 0, 0, []) := io_plain (by decide +kernel) rfl
theorem r_X10_matchesAnew_18 : IOK WB AD SR FW TB md_X10_matchesAnew 18 (.getfield 21, 10, 1, 2, []) := io_get (by decide +kernel) fo_RX10_21
theorem r_X10_matchesAnew_21 : IOK WB AD SR FW TB md_X10_matchesAnew 21 (.invokevirtual 173, 21, 8, 0, []) := io_virt (by decide +kernel) tb_X8_startAnew (Or.inl (wb_3 204 rfl rfl)) in_X8_startAnew se_X8_startAnew ⟨_, rfl, rfl⟩ pr_X8_startAnew (by decide)
theorem r_X10_matchesAnew_24 : IOK WB AD SR FW TB md_X10_matchesAnew 24 (.aload_n 0, 0, 0, 0, []) := io_plain (by decide +kernel) rfl
theorem r_X10_matchesAnew_25 : IOK WB AD SR FW TB md_X10_matchesAnew 25 (.getfield 37, 10, 3, 2, []) := io_get (by decide +kernel) fo_RX10_37
theorem r_X10_matchesAnew_28 : IOK WB AD SR FW TB md_X10_matchesAnew 28 (.aload_n 0, 0, 0, 0, []) := io_plain (by decide +kernel) rfl
theorem r_X10_matchesAnew_29 : IOK WB AD SR FW TB md_X10_matchesAnew 29 (.getfield 160, 10, 8, 0, []) := io_get (by decide +kernel) fo_RX10_160
theorem r_X10_matchesAnew_32 : IOK WB AD SR FW TB md_X10_matchesAnew 32 (.iconst 2, 0, 0, 0, []) := io_plain (by decide +kernel) rfl
theorem r_X10_matchesAnew_33 : IOK WB AD SR FW TB md_X10_matchesAnew 33 (.isub, 0, 0, 0, []) := io_plain (by decide +kernel) rfl
theorem r_X10_matchesAnew_34 : IOK WB AD SR FW TB md_X10_matchesAnew 34 (.invokestatic 176, 17, 10, 0, []) := io_stat (by decide +kernel) tb_X10_stackAt (Or.inl (wb_3 184 rfl rfl)) st_X10_stackAt pr_X10_stackAt
theorem r_X10_matchesAnew_37 : IOK WB AD SR FW TB md_X10_matchesAnew 37 (.aload_n 0, 0, 0, 0, []) := io_plain (by decide +kernel) rfl
theorem r_X10_matchesAnew_38 : IOK WB AD SR FW TB md_X10_matchesAnew 38 (.invokevirtual 203, 84, 10, 0, []) := io_virt (by decide +kernel) tb_X10_topAt (Or.inl (wb_3 239 rfl rfl)) in_X10_topAt se_X10_topAt ⟨_, rfl, rfl⟩ pr_X10_topAt (by decide)
theorem r_X10_matchesAnew_41 : IOK WB AD SR FW TB md_X10_matchesAnew 41 (.invokevirtual 229, 45, 3, 0, []) := io_virt (by decide +kernel) tb_X3_countByTrying (Or.inl (wb_5 24 rfl rfl)) in_X3_countByTrying se_X3_countByTrying ⟨_, rfl, rfl⟩ pr_X3_countByTrying (by decide)
theorem r_X10_matchesAnew_44 : IOK WB AD SR FW TB md_X10_matchesAnew 44 (.ireturn, 0, 0, 0, []) := io_plain (by decide +kernel) rfl
set_option maxRecDepth 100000 in
theorem ok_X10_matchesAnew_0 : ∀ q ∈ tl_X10_matchesAnew, IOK WB AD SR FW TB md_X10_matchesAnew q.1 q.2 := fun _ h => absurd h List.not_mem_nil
set_option maxRecDepth 100000 in
theorem tq_X10_matchesAnew_0 : tf_X10_matchesAnew = tl_X10_matchesAnew.map (fun q => (q.1, stepOf NPf md_X10_matchesAnew q.2)) := rfl
theorem ro_X10_matchesAnew : RowsOK (md_X10_matchesAnew, tl_X10_matchesAnew) tf_X10_matchesAnew := ⟨tq_X10_matchesAnew_0, ok_X10_matchesAnew_0⟩
theorem r_X10_match_0 : IOK WB AD SR FW TB md_X10_match 0 (.aload_n 0, 0, 0, 0, []) := io_plain (by decide +kernel) rfl
theorem r_X10_match_1 : IOK WB AD SR FW TB md_X10_match 1 (.invokevirtual 221, 85, 10, 0, []) := io_virt (by decide +kernel) tb_X10_hasPatternAndSubject (Or.inl (wb_5 14 rfl rfl)) in_X10_hasPatternAndSubject se_X10_hasPatternAndSubject ⟨_, rfl, rfl⟩ pr_X10_hasPatternAndSubject (by decide)
theorem r_X10_match_4 : IOK WB AD SR FW TB md_X10_match 4 (.ifCond .ne 13, 0, 0, 0, []) := io_plain (by decide +kernel) rfl
theorem r_X10_match_17 : IOK WB AD SR FW TB md_X10_match 17 (.aload_n 0, 0, 0, 0, []) := io_plain (by decide +kernel) rfl
theorem r_X10_match_18 : IOK WB AD SR FW TB md_X10_match 18 (.getfield 21, 10, 1, 2, []) := io_get (by decide +kernel) fo_RX10_21
theorem r_X10_match_21 : IOK WB AD SR FW TB md_X10_match 21 (.invokevirtual 173, 21, 8, 0, []) := io_virt (by decide +kernel) tb_X8_startAnew (Or.inl (wb_3 204 rfl rfl)) in_X8_startAnew se_X8_startAnew ⟨_, rfl, rfl⟩ pr_X8_startAnew (by decide)
theorem r_X10_match_24 : IOK WB AD SR FW TB md_X10_match 24 (.aload_n 0, 0, 0, 0, []) := io_plain (by decide +kernel) rfl
theorem r_X10_match_25 : IOK WB AD SR FW TB md_X10_match 25 (.getfield 160, 10, 8, 0, []) := io_get (by decide +kernel) fo_RX10_160
theorem r_X10_match_28 : IOK WB AD SR FW TB md_X10_match 28 (.iconst 2, 0, 0, 0, []) := io_plain (by decide +kernel) rfl
theorem r_X10_match_29 : IOK WB AD SR FW TB md_X10_match 29 (.isub, 0, 0, 0, []) := io_plain (by decide +kernel) rfl
theorem r_X10_match_30 : IOK WB AD SR FW TB md_X10_match 30 (.invokestatic 176, 17, 10, 0, []) := io_stat (by decide +kernel) tb_X10_stackAt (Or.inl (wb_3 184 rfl rfl)) st_X10_stackAt pr_X10_stackAt
theorem r_X10_match_33 : IOK WB AD SR FW TB md_X10_match 33 (.istore_n 3, 0, 0, 0, []) := io_plain (by decide +kernel) rfl
theorem r_X10_match_34 : IOK WB AD SR FW TB md_X10_match 34 (.aload_n 0, 0, 0, 0, []) := io_plain (by decide +kernel) rfl
theorem r_X10_match_35 : IOK WB AD SR FW TB md_X10_match 35 (.getfield 37, 10, 3, 2, []) := io_get (by decide +kernel) fo_RX10_37
theorem r_X10_match_38 : IOK WB AD SR FW TB md_X10_match 38 (.iload_n 3, 0, 0, 0, []) := io_plain (by decide +kernel) rfl
theorem r_X10_match_39 : IOK WB AD SR FW TB md_X10_match 39 (.aload_n 0, 0, 0, 0, []) := io_plain (by decide +kernel) rfl
theorem r_X10_match_40 : IOK WB AD SR FW TB md_X10_match 40 (.invokevirtual 203, 84, 10, 0, []) := io_virt (by decide +kernel) tb_X10_topAt (Or.inl (wb_3 239 rfl rfl)) in_X10_topAt se_X10_topAt ⟨_, rfl, rfl⟩ pr_X10_topAt (by decide)
theorem r_X10_match_43 : IOK WB AD SR FW TB md_X10_match 43 (.invokevirtual 226, 44, 3, 0, []) := io_virt (by decide +kernel) tb_X3_list (Or.inl (wb_4 216 rfl rfl)) in_X3_list se_X3_list ⟨_, rfl, rfl⟩ pr_X3_list (by decide)
theorem r_X10_match_46 : IOK WB AD SR FW TB md_X10_match 46 (.istore 4, 0, 0, 0, []) := io_plain (by decide +kernel) rfl
theorem r_X10_match_48 : IOK WB AD SR FW TB md_X10_match 48 (.iload_n 1, 0, 0, 0, []) := io_plain (by decide +kernel) rfl
theorem r_X10_match_49 : IOK WB AD SR FW TB md_X10_match 49 (.ifCond .lt 31, 0, 0, 0, []) := io_plain (by decide +kernel) rfl
theorem r_X10_match_52 : IOK WB AD SR FW TB md_X10_match 52 (.iload_n 1, 0, 0, 0, []) := io_plain (by decide +kernel) rfl
theorem r_X10_match_53 : IOK WB AD SR FW TB md_X10_match 53 (.iload 4, 0, 0, 0, []) := io_plain (by decide +kernel) rfl
theorem r_X10_match_55 : IOK WB AD SR FW TB md_X10_match 55 (.if_icmp .ge 25, 0, 0, 0, []) := io_plain (by decide +kernel) rfl
theorem r_X10_match_58 : IOK WB AD SR FW TB md_X10_match 58 (.iload_n 2, 0, 0, 0, []) := io_plain (by decide +kernel) rfl
theorem r_X10_match_59 : IOK WB AD SR FW TB md_X10_match 59 (.invokestatic 108, 28, 10, 0, []) := io_stat (by decide +kernel) tb_X10_isVariableNumber (Or.inl (wb_3 175 rfl rfl)) st_X10_isVariableNumber pr_X10_isVariableNumber
theorem r_X10_match_62 : IOK WB AD SR FW TB md_X10_match 62 (.ifCond .eq 18, 0, 0, 0, []) := io_plain (by decide +kernel) rfl
theorem r_X10_match_65 : IOK WB AD SR FW TB md_X10_match 65 (.aload_n 0, 0, 0, 0, []) := io_plain (by decide +kernel) rfl
theorem r_X10_match_66 : IOK WB AD SR FW TB md_X10_match 66 (.getfield 21, 10, 1, 2, []) := io_get (by decide +kernel) fo_RX10_21
theorem r_X10_match_69 : IOK WB AD SR FW TB md_X10_match 69 (.iload_n 3, 0, 0, 0, []) := io_plain (by decide +kernel) rfl
theorem r_X10_match_70 : IOK WB AD SR FW TB md_X10_match 70 (.invokevirtual 232, 7, 8, 0, []) := io_virt (by decide +kernel) tb_X8_variablesAt (Or.inl (wb_4 39 rfl rfl)) in_X8_variablesAt se_X8_variablesAt ⟨_, rfl, rfl⟩ pr_X8_variablesAt (by decide)
theorem r_X10_match_73 : IOK WB AD SR FW TB md_X10_match 73 (.iload_n 2, 0, 0, 0, []) := io_plain (by decide +kernel) rfl
theorem r_X10_match_74 : IOK WB AD SR FW TB md_X10_match 74 (.ishr, 0, 0, 0, []) := io_plain (by decide +kernel) rfl
theorem r_X10_match_75 : IOK WB AD SR FW TB md_X10_match 75 (.iconst 1, 0, 0, 0, []) := io_plain (by decide +kernel) rfl
theorem r_X10_match_76 : IOK WB AD SR FW TB md_X10_match 76 (.iand, 0, 0, 0, []) := io_plain (by decide +kernel) rfl
theorem r_X10_match_77 : IOK WB AD SR FW TB md_X10_match 77 (.ifCond .ne 13, 0, 0, 0, []) := io_plain (by decide +kernel) rfl
theorem r_X10_match_90 : IOK WB AD SR FW TB md_X10_match 90 (.aload_n 0, 0, 0, 0, []) := io_plain (by decide +kernel) rfl
theorem r_X10_match_91 : IOK WB AD SR FW TB md_X10_match 91 (.getfield 160, 10, 8, 0, []) := io_get (by decide +kernel) fo_RX10_160
theorem r_X10_match_94 : IOK WB AD SR FW TB md_X10_match 94 (.bipush 10, 0, 0, 0, []) := io_plain (by decide +kernel) rfl
theorem r_X10_match_96 : IOK WB AD SR FW TB md_X10_match 96 (.if_icmp .lt 13, 0, 0, 0, []) := io_plain (by decide +kernel) rfl
theorem r_X10_match_109 : IOK WB AD SR FW TB md_X10_match 109 (.aload_n 0, 0, 0, 0, []) := io_plain (by decide +kernel) rfl
theorem r_X10_match_110 : IOK WB AD SR FW TB md_X10_match 110 (.getfield 37, 10, 3, 2, []) := io_get (by decide +kernel) fo_RX10_37
theorem r_X10_match_113 : IOK WB AD SR FW TB md_X10_match 113 (.iload_n 3, 0, 0, 0, []) := io_plain (by decide +kernel) rfl
theorem r_X10_match_114 : IOK WB AD SR FW TB md_X10_match 114 (.aload_n 0, 0, 0, 0, []) := io_plain (by decide +kernel) rfl
theorem r_X10_match_115 : IOK WB AD SR FW TB md_X10_match 115 (.getfield 37, 10, 3, 2, []) := io_get (by decide +kernel) fo_RX10_37
theorem r_X10_match_118 : IOK WB AD SR FW TB md_X10_match 118 (.getfield 237, 3, 13, 0, []) := io_get (by decide +kernel) fo_RX10_237
theorem r_X10_match_121 : IOK WB AD SR FW TB md_X10_match 121 (.iload_n 1, 0, 0, 0, []) := io_plain (by decide +kernel) rfl
theorem r_X10_match_122 : IOK WB AD SR FW TB md_X10_match 122 (.iadd, 0, 0, 0, []) := io_plain (by decide +kernel) rfl
theorem r_X10_match_123 : IOK WB AD SR FW TB md_X10_match 123 (.aload_n 0, 0, 0, 0, []) := io_plain (by decide +kernel) rfl
theorem r_X10_match_124 : IOK WB AD SR FW TB md_X10_match 124 (.getfield 37, 10, 3, 2, []) := io_get (by decide +kernel) fo_RX10_37
theorem r_X10_match_127 : IOK WB AD SR FW TB md_X10_match 127 (.getfield 240, 3, 14, 0, []) := io_get (by decide +kernel) fo_RX10_240
theorem r_X10_match_130 : IOK WB AD SR FW TB md_X10_match 130 (.invokevirtual 243, 47, 3, 0, []) := io_virt (by decide +kernel) tb_X3_giveMatch (Or.inl (wb_5 39 rfl rfl)) in_X3_giveMatch se_X3_giveMatch ⟨_, rfl, rfl⟩ pr_X3_giveMatch (by decide)
theorem r_X10_match_133 : IOK WB AD SR FW TB md_X10_match 133 (.aload_n 0, 0, 0, 0, []) := io_plain (by decide +kernel) rfl
theorem r_X10_match_134 : IOK WB AD SR FW TB md_X10_match 134 (.aload_n 0, 0, 0, 0, []) := io_plain (by decide +kernel) rfl
theorem r_X10_match_135 : IOK WB AD SR FW TB md_X10_match 135 (.getfield 21, 10, 1, 2, []) := io_get (by decide +kernel) fo_RX10_21
theorem r_X10_match_138 : IOK WB AD SR FW TB md_X10_match 138 (.getfield 247, 8, 7, 2, []) := io_get (by decide +kernel) fo_RX10_247
theorem r_X10_match_141 : IOK WB AD SR FW TB md_X10_match 141 (.iload_n 2, 0, 0, 0, []) := io_plain (by decide +kernel) rfl
theorem r_X10_match_142 : IOK WB AD SR FW TB md_X10_match 142 (.iaload, 0, 0, 0, []) := io_plain (by decide +kernel) rfl
theorem r_X10_match_143 : IOK WB AD SR FW TB md_X10_match 143 (.invokevirtual 165, 15, 10, 0, []) := io_virt (by decide +kernel) tb_X10_push (Or.inl (wb_3 180 rfl rfl)) in_X10_push se_X10_push ⟨_, rfl, rfl⟩ pr_X10_push (by decide)
theorem r_X10_match_146 : IOK WB AD SR FW TB md_X10_match 146 (.ireturn, 0, 0, 0, []) := io_plain (by decide +kernel) rfl
set_option maxRecDepth 100000 in
theorem ok_X10_match_0 : ∀ q ∈ tl_X10_match, IOK WB AD SR FW TB md_X10_match q.1 q.2 := fun _ h => absurd h List.not_mem_nil
set_option maxRecDepth 100000 in
theorem tq_X10_match_0 : tf_X10_match = tl_X10_match.map (fun q => (q.1, stepOf NPf md_X10_match q.2)) := rfl
theorem ro_X10_match : RowsOK (md_X10_match, tl_X10_match) tf_X10_match := ⟨tq_X10_match_0, ok_X10_match_0⟩
theorem r_X10_reduce_0 : IOK WB AD SR FW TB md_X10_reduce 0 (.aload_n 0, 0, 0, 0, []) := io_plain (by decide +kernel) rfl
theorem r_X10_reduce_1 : IOK WB AD SR FW TB md_X10_reduce 1 (.getfield 160, 10, 8, 0, []) := io_get (by decide +kernel) fo_RX10_160
theorem r_X10_reduce_4 : IOK WB AD SR FW TB md_X10_reduce 4 (.ifCond .ne 13, 0, 0, 0, []) := io_plain (by decide +kernel) rfl
theorem r_X10_reduce_17 : IOK WB AD SR FW TB md_X10_reduce 17 (.aload_n 0, 0, 0, 0, []) := io_plain (by decide +kernel) rfl
theorem r_X10_reduce_18 : IOK WB AD SR FW TB md_X10_reduce 18 (.getfield 21, 10, 1, 2, []) := io_get (by decide +kernel) fo_RX10_21
theorem r_X10_reduce_21 : IOK WB AD SR FW TB md_X10_reduce 21 (.invokevirtual 173, 21, 8, 0, []) := io_virt (by decide +kernel) tb_X8_startAnew (Or.inl (wb_3 204 rfl rfl)) in_X8_startAnew se_X8_startAnew ⟨_, rfl, rfl⟩ pr_X8_startAnew (by decide)
theorem r_X10_reduce_24 : IOK WB AD SR FW TB md_X10_reduce 24 (.aload_n 0, 0, 0, 0, []) := io_plain (by decide +kernel) rfl
theorem r_X10_reduce_25 : IOK WB AD SR FW TB md_X10_reduce 25 (.getfield 46, 10, 4, 2, []) := io_get (by decide +kernel) fo_RX10_46
theorem r_X10_reduce_28 : IOK WB AD SR FW TB md_X10_reduce 28 (.iconst 0, 0, 0, 0, []) := io_plain (by decide +kernel) rfl
theorem r_X10_reduce_29 : IOK WB AD SR FW TB md_X10_reduce 29 (.putfield 274, 6, 3, 0, []) := io_put (by decide +kernel) fo_RX10_274 po_RX10_0_6_3_0
theorem r_X10_reduce_32 : IOK WB AD SR FW TB md_X10_reduce 32 (.aload_n 0, 0, 0, 0, []) := io_plain (by decide +kernel) rfl
theorem r_X10_reduce_33 : IOK WB AD SR FW TB md_X10_reduce 33 (.getfield 46, 10, 4, 2, []) := io_get (by decide +kernel) fo_RX10_46
theorem r_X10_reduce_36 : IOK WB AD SR FW TB md_X10_reduce 36 (.aload_n 0, 0, 0, 0, []) := io_plain (by decide +kernel) rfl
theorem r_X10_reduce_37 : IOK WB AD SR FW TB md_X10_reduce 37 (.invokevirtual 203, 84, 10, 0, []) := io_virt (by decide +kernel) tb_X10_topAt (Or.inl (wb_3 239 rfl rfl)) in_X10_topAt se_X10_topAt ⟨_, rfl, rfl⟩ pr_X10_topAt (by decide)
theorem r_X10_reduce_40 : IOK WB AD SR FW TB md_X10_reduce 40 (.iconst 0, 0, 0, 0, []) := io_plain (by decide +kernel) rfl
theorem r_X10_reduce_41 : IOK WB AD SR FW TB md_X10_reduce 41 (.invokevirtual 277, 65, 6, 0, []) := io_virt (by decide +kernel) tb_X6_normalForm (Or.inr ⟨rfl, rfl, "RuleForge", List.mem_of_getElem? (i := 8) rfl⟩) in_X6_normalForm se_X6_normalForm ⟨_, rfl, rfl⟩ pr_X6_normalForm (by decide)
theorem r_X10_reduce_44 : IOK WB AD SR FW TB md_X10_reduce 44 (.istore_n 1, 0, 0, 0, []) := io_plain (by decide +kernel) rfl
theorem r_X10_reduce_45 : IOK WB AD SR FW TB md_X10_reduce 45 (.iload_n 1, 0, 0, 0, []) := io_plain (by decide +kernel) rfl
theorem r_X10_reduce_46 : IOK WB AD SR FW TB md_X10_reduce 46 (.ifCond .ge 6, 0, 0, 0, []) := io_plain (by decide +kernel) rfl
theorem r_X10_reduce_52 : IOK WB AD SR FW TB md_X10_reduce 52 (.aload_n 0, 0, 0, 0, []) := io_plain (by decide +kernel) rfl
theorem r_X10_reduce_53 : IOK WB AD SR FW TB md_X10_reduce 53 (.getfield 21, 10, 1, 2, []) := io_get (by decide +kernel) fo_RX10_21
theorem r_X10_reduce_56 : IOK WB AD SR FW TB md_X10_reduce 56 (.iload_n 1, 0, 0, 0, []) := io_plain (by decide +kernel) rfl
theorem r_X10_reduce_57 : IOK WB AD SR FW TB md_X10_reduce 57 (.aload_n 0, 0, 0, 0, []) := io_plain (by decide +kernel) rfl
theorem r_X10_reduce_58 : IOK WB AD SR FW TB md_X10_reduce 58 (.invokevirtual 203, 84, 10, 0, []) := io_virt (by decide +kernel) tb_X10_topAt (Or.inl (wb_3 239 rfl rfl)) in_X10_topAt se_X10_topAt ⟨_, rfl, rfl⟩ pr_X10_topAt (by decide)
theorem r_X10_reduce_61 : IOK WB AD SR FW TB md_X10_reduce 61 (.invokevirtual 193, 14, 8, 0, []) := io_virt (by decide +kernel) tb_X8_store (Or.inl (wb_3 187 rfl rfl)) in_X8_store se_X8_store ⟨_, rfl, rfl⟩ pr_X8_store (by decide)
theorem r_X10_reduce_64 : IOK WB AD SR FW TB md_X10_reduce 64 (.aload_n 0, 0, 0, 0, []) := io_plain (by decide +kernel) rfl
theorem r_X10_reduce_65 : IOK WB AD SR FW TB md_X10_reduce 65 (.getfield 46, 10, 4, 2, []) := io_get (by decide +kernel) fo_RX10_46
theorem r_X10_reduce_68 : IOK WB AD SR FW TB md_X10_reduce 68 (.getfield 274, 6, 3, 0, []) := io_get (by decide +kernel) fo_RX10_274
theorem r_X10_reduce_71 : IOK WB AD SR FW TB md_X10_reduce 71 (.ireturn, 0, 0, 0, []) := io_plain (by decide +kernel) rfl
set_option maxRecDepth 100000 in
theorem ok_X10_reduce_0 : ∀ q ∈ tl_X10_reduce, IOK WB AD SR FW TB md_X10_reduce q.1 q.2 := fun _ h => absurd h List.not_mem_nil
set_option maxRecDepth 100000 in
theorem tq_X10_reduce_0 : tf_X10_reduce = tl_X10_reduce.map (fun q => (q.1, stepOf NPf md_X10_reduce q.2)) := rfl
theorem ro_X10_reduce : RowsOK (md_X10_reduce, tl_X10_reduce) tf_X10_reduce := ⟨tq_X10_reduce_0, ok_X10_reduce_0⟩
theorem r_X10_matching_0 : IOK WB AD SR FW TB md_X10_matching 0 (.aload_n 0, 0, 0, 0, []) := io_plain (by decide +kernel) rfl
theorem r_X10_matching_1 : IOK WB AD SR FW TB md_X10_matching 1 (.getfield 160, 10, 8, 0, []) := io_get (by decide +kernel) fo_RX10_160
theorem r_X10_matching_4 : IOK WB AD SR FW TB md_X10_matching 4 (.ifCond .ne 13, 0, 0, 0, []) := io_plain (by decide +kernel) rfl
theorem r_X10_matching_17 : IOK WB AD SR FW TB md_X10_matching 17 (.iconst 0, 0, 0, 0, []) := io_plain (by decide +kernel) rfl
theorem r_X10_matching_18 : IOK WB AD SR FW TB md_X10_matching 18 (.istore_n 1, 0, 0, 0, []) := io_plain (by decide +kernel) rfl
theorem r_X10_matching_19 : IOK WB AD SR FW TB md_X10_matching 19 (.iconst 0, 0, 0, 0, []) := io_plain (by decide +kernel) rfl
theorem r_X10_matching_20 : IOK WB AD SR FW TB md_X10_matching 20 (.istore_n 2, 0, 0, 0, []) := io_plain (by decide +kernel) rfl
theorem r_X10_matching_21 : IOK WB AD SR FW TB md_X10_matching 21 (.iload_n 2, 0, 0, 0, []) := io_plain (by decide +kernel) rfl
theorem r_X10_matching_22 : IOK WB AD SR FW TB md_X10_matching 22 (.aload_n 0, 0, 0, 0, []) := io_plain (by decide +kernel) rfl
theorem r_X10_matching_23 : IOK WB AD SR FW TB md_X10_matching 23 (.getfield 30, 10, 2, 2, []) := io_get (by decide +kernel) fo_RX10_30
theorem r_X10_matching_26 : IOK WB AD SR FW TB md_X10_matching 26 (.getfield 262, 2, 2, 0, []) := io_get (by decide +kernel) fo_RX10_262
theorem r_X10_matching_29 : IOK WB AD SR FW TB md_X10_matching 29 (.if_icmp .ge 49, 0, 0, 0, []) := io_plain (by decide +kernel) rfl
theorem r_X10_matching_32 : IOK WB AD SR FW TB md_X10_matching 32 (.aload_n 0, 0, 0, 0, []) := io_plain (by decide +kernel) rfl
theorem r_X10_matching_33 : IOK WB AD SR FW TB md_X10_matching 33 (.getfield 21, 10, 1, 2, []) := io_get (by decide +kernel) fo_RX10_21
theorem r_X10_matching_36 : IOK WB AD SR FW TB md_X10_matching 36 (.invokevirtual 173, 21, 8, 0, []) := io_virt (by decide +kernel) tb_X8_startAnew (Or.inl (wb_3 204 rfl rfl)) in_X8_startAnew se_X8_startAnew ⟨_, rfl, rfl⟩ pr_X8_startAnew (by decide)
theorem r_X10_matching_39 : IOK WB AD SR FW TB md_X10_matching 39 (.iload_n 1, 0, 0, 0, []) := io_plain (by decide +kernel) rfl
theorem r_X10_matching_40 : IOK WB AD SR FW TB md_X10_matching 40 (.aload_n 0, 0, 0, 0, []) := io_plain (by decide +kernel) rfl
theorem r_X10_matching_41 : IOK WB AD SR FW TB md_X10_matching 41 (.getfield 37, 10, 3, 2, []) := io_get (by decide +kernel) fo_RX10_37
theorem r_X10_matching_44 : IOK WB AD SR FW TB md_X10_matching 44 (.aload_n 0, 0, 0, 0, []) := io_plain (by decide +kernel) rfl
theorem r_X10_matching_45 : IOK WB AD SR FW TB md_X10_matching 45 (.getfield 30, 10, 2, 2, []) := io_get (by decide +kernel) fo_RX10_30
theorem r_X10_matching_48 : IOK WB AD SR FW TB md_X10_matching 48 (.iload_n 2, 0, 0, 0, []) := io_plain (by decide +kernel) rfl
theorem r_X10_matching_49 : IOK WB AD SR FW TB md_X10_matching 49 (.iconst 0, 0, 0, 0, []) := io_plain (by decide +kernel) rfl
theorem r_X10_matching_50 : IOK WB AD SR FW TB md_X10_matching 50 (.invokevirtual 267, 29, 2, 0, []) := io_virt (by decide +kernel) tb_X2_partAt (Or.inl (wb_4 42 rfl rfl)) in_X2_partAt se_X2_partAt ⟨_, rfl, rfl⟩ pr_X2_partAt (by decide)
theorem r_X10_matching_53 : IOK WB AD SR FW TB md_X10_matching 53 (.aload_n 0, 0, 0, 0, []) := io_plain (by decide +kernel) rfl
theorem r_X10_matching_54 : IOK WB AD SR FW TB md_X10_matching 54 (.invokevirtual 203, 84, 10, 0, []) := io_virt (by decide +kernel) tb_X10_topAt (Or.inl (wb_3 239 rfl rfl)) in_X10_topAt se_X10_topAt ⟨_, rfl, rfl⟩ pr_X10_topAt (by decide)
theorem r_X10_matching_57 : IOK WB AD SR FW TB md_X10_matching 57 (.invokevirtual 226, 44, 3, 0, []) := io_virt (by decide +kernel) tb_X3_list (Or.inl (wb_4 216 rfl rfl)) in_X3_list se_X3_list ⟨_, rfl, rfl⟩ pr_X3_list (by decide)
theorem r_X10_matching_60 : IOK WB AD SR FW TB md_X10_matching 60 (.ifCond .le 9, 0, 0, 0, []) := io_plain (by decide +kernel) rfl
theorem r_X10_matching_69 : IOK WB AD SR FW TB md_X10_matching 69 (.iconst 0, 0, 0, 0, []) := io_plain (by decide +kernel) rfl
theorem r_X10_matching_70 : IOK WB AD SR FW TB md_X10_matching 70 (.ior, 0, 0, 0, []) := io_plain (by decide +kernel) rfl
theorem r_X10_matching_71 : IOK WB AD SR FW TB md_X10_matching 71 (.istore_n 1, 0, 0, 0, []) := io_plain (by decide +kernel) rfl
theorem r_X10_matching_72 : IOK WB AD SR FW TB md_X10_matching 72 (.iinc 2 1, 0, 0, 0, []) := io_plain (by decide +kernel) rfl
theorem r_X10_matching_75 : IOK WB AD SR FW TB md_X10_matching 75 (.goto (-54), 0, 0, 0, []) := io_plain (by decide +kernel) rfl
theorem r_X10_matching_78 : IOK WB AD SR FW TB md_X10_matching 78 (.iload_n 1, 0, 0, 0, []) := io_plain (by decide +kernel) rfl
theorem r_X10_matching_79 : IOK WB AD SR FW TB md_X10_matching 79 (.ireturn, 0, 0, 0, []) := io_plain (by decide +kernel) rfl
set_option maxRecDepth 100000 in
theorem ok_X10_matching_0 : ∀ q ∈ tl_X10_matching, IOK WB AD SR FW TB md_X10_matching q.1 q.2 := fun _ h => absurd h List.not_mem_nil
set_option maxRecDepth 100000 in
theorem tq_X10_matching_0 : tf_X10_matching = tl_X10_matching.map (fun q => (q.1, stepOf NPf md_X10_matching q.2)) := rfl
theorem ro_X10_matching : RowsOK (md_X10_matching, tl_X10_matching) tf_X10_matching := ⟨tq_X10_matching_0, ok_X10_matching_0⟩
theorem r_X10_topAt_0 : IOK WB AD SR FW TB md_X10_topAt 0 (.aload_n 0, 0, 0, 0, []) := io_plain (by decide +kernel) rfl
theorem r_X10_topAt_1 : IOK WB AD SR FW TB md_X10_topAt 1 (.getfield 160, 10, 8, 0, []) := io_get (by decide +kernel) fo_RX10_160
theorem r_X10_topAt_4 : IOK WB AD SR FW TB md_X10_topAt 4 (.iconst 1, 0, 0, 0, []) := io_plain (by decide +kernel) rfl
theorem r_X10_topAt_5 : IOK WB AD SR FW TB md_X10_topAt 5 (.isub, 0, 0, 0, []) := io_plain (by decide +kernel) rfl
theorem r_X10_topAt_6 : IOK WB AD SR FW TB md_X10_topAt 6 (.invokestatic 176, 17, 10, 0, []) := io_stat (by decide +kernel) tb_X10_stackAt (Or.inl (wb_3 184 rfl rfl)) st_X10_stackAt pr_X10_stackAt
theorem r_X10_topAt_9 : IOK WB AD SR FW TB md_X10_topAt 9 (.ireturn, 0, 0, 0, []) := io_plain (by decide +kernel) rfl
set_option maxRecDepth 100000 in
theorem ok_X10_topAt_0 : ∀ q ∈ tl_X10_topAt, IOK WB AD SR FW TB md_X10_topAt q.1 q.2 := fun _ h => absurd h List.not_mem_nil
set_option maxRecDepth 100000 in
theorem tq_X10_topAt_0 : tf_X10_topAt = tl_X10_topAt.map (fun q => (q.1, stepOf NPf md_X10_topAt q.2)) := rfl
theorem ro_X10_topAt : RowsOK (md_X10_topAt, tl_X10_topAt) tf_X10_topAt := ⟨tq_X10_topAt_0, ok_X10_topAt_0⟩
theorem r_X10_hasPatternAndSubject_0 : IOK WB AD SR FW TB md_X10_hasPatternAndSubject 0 (.aload_n 0, 0, 0, 0, []) := io_plain (by decide +kernel) rfl
theorem r_X10_hasPatternAndSubject_1 : IOK WB AD SR FW TB md_X10_hasPatternAndSubject 1 (.getfield 160, 10, 8, 0, []) := io_get (by decide +kernel) fo_RX10_160
theorem r_X10_hasPatternAndSubject_4 : IOK WB AD SR FW TB md_X10_hasPatternAndSubject 4 (.iconst 1, 0, 0, 0, []) := io_plain (by decide +kernel) rfl
theorem r_X10_hasPatternAndSubject_5 : IOK WB AD SR FW TB md_X10_hasPatternAndSubject 5 (.if_icmp .le 26, 0, 0, 0, []) := io_plain (by decide +kernel) rfl
theorem r_X10_hasPatternAndSubject_8 : IOK WB AD SR FW TB md_X10_hasPatternAndSubject 8 (.aload_n 0, 0, 0, 0, []) := io_plain (by decide +kernel) rfl
theorem r_X10_hasPatternAndSubject_9 : IOK WB AD SR FW TB md_X10_hasPatternAndSubject 9 (.getfield 21, 10, 1, 2, []) := io_get (by decide +kernel) fo_RX10_21
theorem r_X10_hasPatternAndSubject_12 : IOK WB AD SR FW TB md_X10_hasPatternAndSubject 12 (.aload_n 0, 0, 0, 0, []) := io_plain (by decide +kernel) rfl
theorem r_X10_hasPatternAndSubject_13 : IOK WB AD SR FW TB md_X10_hasPatternAndSubject 13 (.getfield 160, 10, 8, 0, []) := io_get (by decide +kernel) fo_RX10_160
theorem r_X10_hasPatternAndSubject_16 : IOK WB AD SR FW TB md_X10_hasPatternAndSubject 16 (.iconst 2, 0, 0, 0, []) := io_plain (by decide +kernel) rfl
theorem r_X10_hasPatternAndSubject_17 : IOK WB AD SR FW TB md_X10_hasPatternAndSubject 17 (.isub, 0, 0, 0, []) := io_plain (by decide +kernel) rfl
theorem r_X10_hasPatternAndSubject_18 : IOK WB AD SR FW TB md_X10_hasPatternAndSubject 18 (.invokestatic 176, 17, 10, 0, []) := io_stat (by decide +kernel) tb_X10_stackAt (Or.inl (wb_3 184 rfl rfl)) st_X10_stackAt pr_X10_stackAt
theorem r_X10_hasPatternAndSubject_21 : IOK WB AD SR FW TB md_X10_hasPatternAndSubject 21 (.invokevirtual 413, 36, 8, 0, []) := io_virt (by decide +kernel) tb_X8_canBePattern (Or.inl (wb_5 18 rfl rfl)) in_X8_canBePattern se_X8_canBePattern ⟨_, rfl, rfl⟩ pr_X8_canBePattern (by decide)
theorem r_X10_hasPatternAndSubject_24 : IOK WB AD SR FW TB md_X10_hasPatternAndSubject 24 (.ifCond .eq 7, 0, 0, 0, []) := io_plain (by decide +kernel) rfl
theorem r_X10_hasPatternAndSubject_27 : IOK WB AD SR FW TB md_X10_hasPatternAndSubject 27 (.iconst 1, 0, 0, 0, []) := io_plain (by decide +kernel) rfl
theorem r_X10_hasPatternAndSubject_28 : IOK WB AD SR FW TB md_X10_hasPatternAndSubject 28 (.goto 4, 0, 0, 0, []) := io_plain (by decide +kernel) rfl
theorem r_X10_hasPatternAndSubject_32 : IOK WB AD SR FW TB md_X10_hasPatternAndSubject 32 (.ireturn, 0, 0, 0, []) := io_plain (by decide +kernel) rfl
set_option maxRecDepth 100000 in
theorem ok_X10_hasPatternAndSubject_0 : ∀ q ∈ tl_X10_hasPatternAndSubject, IOK WB AD SR FW TB md_X10_hasPatternAndSubject q.1 q.2 := fun _ h => absurd h List.not_mem_nil
set_option maxRecDepth 100000 in
theorem tq_X10_hasPatternAndSubject_0 : tf_X10_hasPatternAndSubject = tl_X10_hasPatternAndSubject.map (fun q => (q.1, stepOf NPf md_X10_hasPatternAndSubject q.2)) := rfl
theorem ro_X10_hasPatternAndSubject : RowsOK (md_X10_hasPatternAndSubject, tl_X10_hasPatternAndSubject) tf_X10_hasPatternAndSubject := ⟨tq_X10_hasPatternAndSubject_0, ok_X10_hasPatternAndSubject_0⟩
theorem r_X10_operatorIn_0 : IOK WB AD SR FW TB md_X10_operatorIn 0 (.iload_n 0, 0, 0, 0, []) := io_plain (by decide +kernel) rfl
