theorem ro_X17_drop : RowsOK (md_X17_drop, tl_X17_drop) tf_X17_drop := ⟨tq_X17_drop_0, ok_X17_drop_0⟩
theorem r_X17_matches_0 : IOK WB AD SR FW TB md_X17_matches 0 (.aload_n 0, 0, 0, 0, []) := io_plain (by decide +kernel) rfl
theorem r_X17_matches_1 : IOK WB AD SR FW TB md_X17_matches 1 (.aload_n 0, 0, 0, 0, []) := io_plain (by decide +kernel) rfl
theorem r_X17_matches_2 : IOK WB AD SR FW TB md_X17_matches 2 (.invokevirtual 540, 76, 18, 0, []) := io_virt (by decide +kernel) tb_X17_hasBoth (wb_10 181 rfl rfl) in_X17_hasBoth se_X17_hasBoth ⟨_, rfl, rfl⟩ pr_X17_hasBoth (by decide)
theorem r_X17_matches_5 : IOK WB AD SR FW TB md_X17_matches 5 (.ifCond .eq 7, 0, 0, 0, []) := io_plain (by decide +kernel) rfl
theorem r_X17_matches_12 : IOK WB AD SR FW TB md_X17_matches 12 (.iconst 1, 0, 0, 0, []) := io_plain (by decide +kernel) rfl
theorem r_X17_matches_13 : IOK WB AD SR FW TB md_X17_matches 13 (.putfield 114, 18, 0, 0, []) := io_put (by decide +kernel) fo_RX17_114 po_RX17_0_18_0_0
theorem r_X17_matches_16 : IOK WB AD SR FW TB md_X17_matches 16 (.aload_n 0, 0, 0, 0, []) := io_plain (by decide +kernel) rfl
theorem r_X17_matches_17 : IOK WB AD SR FW TB md_X17_matches 17 (.getfield 114, 18, 0, 0, []) := io_get (by decide +kernel) fo_RX17_114
theorem r_X17_matches_20 : IOK WB AD SR FW TB md_X17_matches 20 (.ifCond .le 7, 0, 0, 0, []) := io_plain (by decide +kernel) rfl
theorem r_X17_matches_23 : IOK WB AD SR FW TB md_X17_matches 23 (.iconst 0, 0, 0, 0, []) := io_plain (by decide +kernel) rfl
theorem r_X17_matches_24 : IOK WB AD SR FW TB md_X17_matches 24 (.goto 18, 0, 0, 0, []) := io_plain (by decide +kernel) rfl
theorem r_X17_matches_42 : IOK WB AD SR FW TB md_X17_matches 42 (.ireturn, 0, 0, 0, []) := io_plain (by decide +kernel) rfl
set_option maxRecDepth 100000 in
theorem ok_X17_matches_0 : ∀ q ∈ tl_X17_matches, IOK WB AD SR FW TB md_X17_matches q.1 q.2 := List.forall_mem_cons.mpr ⟨r_X17_matches_0, List.forall_mem_cons.mpr ⟨r_X17_matches_1, List.forall_mem_cons.mpr ⟨r_X17_matches_2, List.forall_mem_cons.mpr ⟨r_X17_matches_5, List.forall_mem_cons.mpr ⟨r_X17_matches_12, List.forall_mem_cons.mpr ⟨r_X17_matches_13, List.forall_mem_cons.mpr ⟨r_X17_matches_16, List.forall_mem_cons.mpr ⟨r_X17_matches_17, List.forall_mem_cons.mpr ⟨r_X17_matches_20, List.forall_mem_cons.mpr ⟨r_X17_matches_23, List.forall_mem_cons.mpr ⟨r_X17_matches_24, List.forall_mem_cons.mpr ⟨r_X17_matches_42, fun _ h => absurd h List.not_mem_nil⟩⟩⟩⟩⟩⟩⟩⟩⟩⟩⟩⟩
set_option maxRecDepth 100000 in
theorem tq_X17_matches_0 : tf_X17_matches = tl_X17_matches.map (fun q => (q.1, stepOf NPf md_X17_matches q.2)) := rfl
theorem ro_X17_matches : RowsOK (md_X17_matches, tl_X17_matches) tf_X17_matches := ⟨tq_X17_matches_0, ok_X17_matches_0⟩
theorem r_X10_state_0 : IOK WB AD SR FW TB md_X10_state 0 (.iload_n 1, 0, 0, 0, []) := io_plain (by decide +kernel) rfl
theorem r_X10_state_1 : IOK WB AD SR FW TB md_X10_state 1 (.ifCond .lt 14, 0, 0, 0, []) := io_plain (by decide +kernel) rfl
theorem r_X10_state_4 : IOK WB AD SR FW TB md_X10_state 4 (.iload_n 1, 0, 0, 0, []) := io_plain (by decide +kernel) rfl
theorem r_X10_state_5 : IOK WB AD SR FW TB md_X10_state 5 (.aload_n 0, 0, 0, 0, []) := io_plain (by decide +kernel) rfl
theorem r_X10_state_6 : IOK WB AD SR FW TB md_X10_state 6 (.getfield 60, 11, 5, 2, []) := io_get (by decide +kernel) fo_RX10_60
theorem r_X10_state_9 : IOK WB AD SR FW TB md_X10_state 9 (.getfield 290, 2, 2, 0, []) := io_get (by decide +kernel) fo_RX10_290
theorem r_X10_state_12 : IOK WB AD SR FW TB md_X10_state 12 (.if_icmp .lt 14, 0, 0, 0, []) := io_plain (by decide +kernel) rfl
set_option maxRecDepth 100000 in
theorem r_X10_state_15 : IOK WB AD SR FW TB md_X10_state 15 (.new 93, 101, 293, 97, [1]) := io_thx 1 rfl (thk_mk RX10 rfl 93 293 97 1 "there is no such state" true (List.mem_of_getElem? (i := 16) rfl) (by decide) (by decide +kernel) (by decide +kernel) ⟨by decide +kernel, by decide +kernel, by decide +kernel⟩ (wb_5 29 rfl rfl) (wb_1 22 rfl rfl) at_RX10_97_1 rfl) (by decide +kernel)
theorem r_X10_state_18 : IOK WB AD SR FW TB md_X10_state 18 (.dup, 0, 0, 0, []) := io_plain (by decide +kernel) rfl
set_option maxRecDepth 100000 in
theorem ok_X10_state_0 : ∀ q ∈ tl_X10_state, IOK WB AD SR FW TB md_X10_state q.1 q.2 := List.forall_mem_cons.mpr ⟨r_X10_state_0, List.forall_mem_cons.mpr ⟨r_X10_state_1, List.forall_mem_cons.mpr ⟨r_X10_state_4, List.forall_mem_cons.mpr ⟨r_X10_state_5, List.forall_mem_cons.mpr ⟨r_X10_state_6, List.forall_mem_cons.mpr ⟨r_X10_state_9, List.forall_mem_cons.mpr ⟨r_X10_state_12, List.forall_mem_cons.mpr ⟨r_X10_state_15, List.forall_mem_cons.mpr ⟨r_X10_state_18, fun _ h => absurd h List.not_mem_nil⟩⟩⟩⟩⟩⟩⟩⟩⟩
set_option maxRecDepth 100000 in
theorem tq_X10_state_0 : tf_X10_state = tl_X10_state.map (fun q => (q.1, stepOf NPf md_X10_state q.2)) := rfl
theorem ro_X10_state : RowsOK (md_X10_state, tl_X10_state) tf_X10_state := ⟨tq_X10_state_0, ok_X10_state_0⟩
theorem r_X10_cameBy_0 : IOK WB AD SR FW TB md_X10_cameBy 0 (.iload_n 1, 0, 0, 0, []) := io_plain (by decide +kernel) rfl
theorem r_X10_cameBy_1 : IOK WB AD SR FW TB md_X10_cameBy 1 (.ifCond .le 14, 0, 0, 0, []) := io_plain (by decide +kernel) rfl
theorem r_X10_cameBy_4 : IOK WB AD SR FW TB md_X10_cameBy 4 (.iload_n 1, 0, 0, 0, []) := io_plain (by decide +kernel) rfl
theorem r_X10_cameBy_5 : IOK WB AD SR FW TB md_X10_cameBy 5 (.aload_n 0, 0, 0, 0, []) := io_plain (by decide +kernel) rfl
theorem r_X10_cameBy_6 : IOK WB AD SR FW TB md_X10_cameBy 6 (.getfield 60, 11, 5, 2, []) := io_get (by decide +kernel) fo_RX10_60
theorem r_X10_cameBy_9 : IOK WB AD SR FW TB md_X10_cameBy 9 (.getfield 290, 2, 2, 0, []) := io_get (by decide +kernel) fo_RX10_290
theorem r_X10_cameBy_12 : IOK WB AD SR FW TB md_X10_cameBy 12 (.if_icmp .lt 14, 0, 0, 0, []) := io_plain (by decide +kernel) rfl
set_option maxRecDepth 100000 in
theorem r_X10_cameBy_15 : IOK WB AD SR FW TB md_X10_cameBy 15 (.new 93, 101, 295, 97, [1]) := io_thx 1 rfl (thk_mk RX10 rfl 93 295 97 1 "there is no such state, or it is the first one" true (List.mem_of_getElem? (i := 17) rfl) (by decide) (by decide +kernel) (by decide +kernel) ⟨by decide +kernel, by decide +kernel, by decide +kernel⟩ (wb_5 29 rfl rfl) (wb_1 22 rfl rfl) at_RX10_97_1 rfl) (by decide +kernel)
theorem r_X10_cameBy_18 : IOK WB AD SR FW TB md_X10_cameBy 18 (.dup, 0, 0, 0, []) := io_plain (by decide +kernel) rfl
set_option maxRecDepth 100000 in
theorem ok_X10_cameBy_0 : ∀ q ∈ tl_X10_cameBy, IOK WB AD SR FW TB md_X10_cameBy q.1 q.2 := List.forall_mem_cons.mpr ⟨r_X10_cameBy_0, List.forall_mem_cons.mpr ⟨r_X10_cameBy_1, List.forall_mem_cons.mpr ⟨r_X10_cameBy_4, List.forall_mem_cons.mpr ⟨r_X10_cameBy_5, List.forall_mem_cons.mpr ⟨r_X10_cameBy_6, List.forall_mem_cons.mpr ⟨r_X10_cameBy_9, List.forall_mem_cons.mpr ⟨r_X10_cameBy_12, List.forall_mem_cons.mpr ⟨r_X10_cameBy_15, List.forall_mem_cons.mpr ⟨r_X10_cameBy_18, fun _ h => absurd h List.not_mem_nil⟩⟩⟩⟩⟩⟩⟩⟩⟩
set_option maxRecDepth 100000 in
theorem tq_X10_cameBy_0 : tf_X10_cameBy = tl_X10_cameBy.map (fun q => (q.1, stepOf NPf md_X10_cameBy q.2)) := rfl
theorem ro_X10_cameBy : RowsOK (md_X10_cameBy, tl_X10_cameBy) tf_X10_cameBy := ⟨tq_X10_cameBy_0, ok_X10_cameBy_0⟩
theorem r_X10_use_0 : IOK WB AD SR FW TB md_X10_use 0 (.iload_n 1, 0, 0, 0, []) := io_plain (by decide +kernel) rfl
theorem r_X10_use_1 : IOK WB AD SR FW TB md_X10_use 1 (.ifCond .lt 14, 0, 0, 0, []) := io_plain (by decide +kernel) rfl
theorem r_X10_use_4 : IOK WB AD SR FW TB md_X10_use 4 (.iload_n 1, 0, 0, 0, []) := io_plain (by decide +kernel) rfl
theorem r_X10_use_5 : IOK WB AD SR FW TB md_X10_use 5 (.aload_n 0, 0, 0, 0, []) := io_plain (by decide +kernel) rfl
theorem r_X10_use_6 : IOK WB AD SR FW TB md_X10_use 6 (.getfield 30, 11, 2, 2, []) := io_get (by decide +kernel) fo_RX10_30
theorem r_X10_use_9 : IOK WB AD SR FW TB md_X10_use 9 (.getfield 259, 3, 3, 0, []) := io_get (by decide +kernel) fo_RX10_259
theorem r_X10_use_12 : IOK WB AD SR FW TB md_X10_use 12 (.if_icmp .lt 14, 0, 0, 0, []) := io_plain (by decide +kernel) rfl
set_option maxRecDepth 100000 in
theorem r_X10_use_15 : IOK WB AD SR FW TB md_X10_use 15 (.new 93, 101, 318, 97, [1]) := io_thx 1 rfl (thk_mk RX10 rfl 93 318 97 1 "there is no such rule" true (List.mem_of_getElem? (i := 18) rfl) (by decide) (by decide +kernel) (by decide +kernel) ⟨by decide +kernel, by decide +kernel, by decide +kernel⟩ (wb_5 29 rfl rfl) (wb_1 22 rfl rfl) at_RX10_97_1 rfl) (by decide +kernel)
theorem r_X10_use_18 : IOK WB AD SR FW TB md_X10_use 18 (.dup, 0, 0, 0, []) := io_plain (by decide +kernel) rfl
set_option maxRecDepth 100000 in
theorem ok_X10_use_0 : ∀ q ∈ tl_X10_use, IOK WB AD SR FW TB md_X10_use q.1 q.2 := List.forall_mem_cons.mpr ⟨r_X10_use_0, List.forall_mem_cons.mpr ⟨r_X10_use_1, List.forall_mem_cons.mpr ⟨r_X10_use_4, List.forall_mem_cons.mpr ⟨r_X10_use_5, List.forall_mem_cons.mpr ⟨r_X10_use_6, List.forall_mem_cons.mpr ⟨r_X10_use_9, List.forall_mem_cons.mpr ⟨r_X10_use_12, List.forall_mem_cons.mpr ⟨r_X10_use_15, List.forall_mem_cons.mpr ⟨r_X10_use_18, fun _ h => absurd h List.not_mem_nil⟩⟩⟩⟩⟩⟩⟩⟩⟩
set_option maxRecDepth 100000 in
theorem tq_X10_use_0 : tf_X10_use = tl_X10_use.map (fun q => (q.1, stepOf NPf md_X10_use q.2)) := rfl
theorem ro_X10_use : RowsOK (md_X10_use, tl_X10_use) tf_X10_use := ⟨tq_X10_use_0, ok_X10_use_0⟩
theorem r_X10_idle_0 : IOK WB AD SR FW TB md_X10_idle 0 (.aload_n 0, 0, 0, 0, []) := io_plain (by decide +kernel) rfl
theorem r_X10_idle_1 : IOK WB AD SR FW TB md_X10_idle 1 (.getfield 67, 11, 6, 2, []) := io_get (by decide +kernel) fo_RX10_67
theorem r_X10_idle_4 : IOK WB AD SR FW TB md_X10_idle 4 (.getfield 320, 6, 2, 0, []) := io_get (by decide +kernel) fo_RX10_320
theorem r_X10_idle_7 : IOK WB AD SR FW TB md_X10_idle 7 (.bipush 8, 0, 0, 0, []) := io_plain (by decide +kernel) rfl
theorem r_X10_idle_9 : IOK WB AD SR FW TB md_X10_idle 9 (.if_icmp .lt 14, 0, 0, 0, []) := io_plain (by decide +kernel) rfl
theorem r_X10_idle_23 : IOK WB AD SR FW TB md_X10_idle 23 (.aload_n 0, 0, 0, 0, []) := io_plain (by decide +kernel) rfl
theorem r_X10_idle_24 : IOK WB AD SR FW TB md_X10_idle 24 (.getfield 67, 11, 6, 2, []) := io_get (by decide +kernel) fo_RX10_67
theorem r_X10_idle_27 : IOK WB AD SR FW TB md_X10_idle 27 (.iconst 1, 0, 0, 0, []) := io_plain (by decide +kernel) rfl
theorem r_X10_idle_28 : IOK WB AD SR FW TB md_X10_idle 28 (.iconst 0, 0, 0, 0, []) := io_plain (by decide +kernel) rfl
theorem r_X10_idle_29 : IOK WB AD SR FW TB md_X10_idle 29 (.invokevirtual 325, 75, 6, 0, []) := io_virt (by decide +kernel) tb_X5_addOne (wb_6 129 rfl rfl) in_X5_addOne se_X5_addOne ⟨_, rfl, rfl⟩ pr_X5_addOne (by decide)
theorem r_X10_idle_32 : IOK WB AD SR FW TB md_X10_idle 32 (.ireturn, 0, 0, 0, []) := io_plain (by decide +kernel) rfl
set_option maxRecDepth 100000 in
theorem ok_X10_idle_0 : ∀ q ∈ tl_X10_idle, IOK WB AD SR FW TB md_X10_idle q.1 q.2 := List.forall_mem_cons.mpr ⟨r_X10_idle_0, List.forall_mem_cons.mpr ⟨r_X10_idle_1, List.forall_mem_cons.mpr ⟨r_X10_idle_4, List.forall_mem_cons.mpr ⟨r_X10_idle_7, List.forall_mem_cons.mpr ⟨r_X10_idle_9, List.forall_mem_cons.mpr ⟨r_X10_idle_23, List.forall_mem_cons.mpr ⟨r_X10_idle_24, List.forall_mem_cons.mpr ⟨r_X10_idle_27, List.forall_mem_cons.mpr ⟨r_X10_idle_28, List.forall_mem_cons.mpr ⟨r_X10_idle_29, List.forall_mem_cons.mpr ⟨r_X10_idle_32, fun _ h => absurd h List.not_mem_nil⟩⟩⟩⟩⟩⟩⟩⟩⟩⟩⟩
set_option maxRecDepth 100000 in
theorem tq_X10_idle_0 : tf_X10_idle = tl_X10_idle.map (fun q => (q.1, stepOf NPf md_X10_idle q.2)) := rfl
theorem ro_X10_idle : RowsOK (md_X10_idle, tl_X10_idle) tf_X10_idle := ⟨tq_X10_idle_0, ok_X10_idle_0⟩
theorem r_X10_descends_0 : IOK WB AD SR FW TB md_X10_descends 0 (.iload_n 1, 0, 0, 0, []) := io_plain (by decide +kernel) rfl
theorem r_X10_descends_1 : IOK WB AD SR FW TB md_X10_descends 1 (.ifCond .lt 14, 0, 0, 0, []) := io_plain (by decide +kernel) rfl
theorem r_X10_descends_4 : IOK WB AD SR FW TB md_X10_descends 4 (.iload_n 1, 0, 0, 0, []) := io_plain (by decide +kernel) rfl
theorem r_X10_descends_5 : IOK WB AD SR FW TB md_X10_descends 5 (.aload_n 0, 0, 0, 0, []) := io_plain (by decide +kernel) rfl
theorem r_X10_descends_6 : IOK WB AD SR FW TB md_X10_descends 6 (.getfield 30, 11, 2, 2, []) := io_get (by decide +kernel) fo_RX10_30
theorem r_X10_descends_9 : IOK WB AD SR FW TB md_X10_descends 9 (.getfield 262, 3, 2, 0, []) := io_get (by decide +kernel) fo_RX10_262
theorem r_X10_descends_12 : IOK WB AD SR FW TB md_X10_descends 12 (.if_icmp .lt 14, 0, 0, 0, []) := io_plain (by decide +kernel) rfl
set_option maxRecDepth 100000 in
theorem r_X10_descends_15 : IOK WB AD SR FW TB md_X10_descends 15 (.new 93, 101, 374, 97, [1]) := io_thx 1 rfl (thk_mk RX10 rfl 93 374 97 1 "there is no such equation" true (List.mem_of_getElem? (i := 19) rfl) (by decide) (by decide +kernel) (by decide +kernel) ⟨by decide +kernel, by decide +kernel, by decide +kernel⟩ (wb_5 29 rfl rfl) (wb_1 22 rfl rfl) at_RX10_97_1 rfl) (by decide +kernel)
theorem r_X10_descends_18 : IOK WB AD SR FW TB md_X10_descends 18 (.dup, 0, 0, 0, []) := io_plain (by decide +kernel) rfl
set_option maxRecDepth 100000 in
theorem ok_X10_descends_0 : ∀ q ∈ tl_X10_descends, IOK WB AD SR FW TB md_X10_descends q.1 q.2 := List.forall_mem_cons.mpr ⟨r_X10_descends_0, List.forall_mem_cons.mpr ⟨r_X10_descends_1, List.forall_mem_cons.mpr ⟨r_X10_descends_4, List.forall_mem_cons.mpr ⟨r_X10_descends_5, List.forall_mem_cons.mpr ⟨r_X10_descends_6, List.forall_mem_cons.mpr ⟨r_X10_descends_9, List.forall_mem_cons.mpr ⟨r_X10_descends_12, List.forall_mem_cons.mpr ⟨r_X10_descends_15, List.forall_mem_cons.mpr ⟨r_X10_descends_18, fun _ h => absurd h List.not_mem_nil⟩⟩⟩⟩⟩⟩⟩⟩⟩
set_option maxRecDepth 100000 in
theorem tq_X10_descends_0 : tf_X10_descends = tl_X10_descends.map (fun q => (q.1, stepOf NPf md_X10_descends q.2)) := rfl
theorem ro_X10_descends : RowsOK (md_X10_descends, tl_X10_descends) tf_X10_descends := ⟨tq_X10_descends_0, ok_X10_descends_0⟩
theorem r_X10_copy_0 : IOK WB AD SR FW TB md_X10_copy 0 (.iload_n 1, 0, 0, 0, []) := io_plain (by decide +kernel) rfl
theorem r_X10_copy_1 : IOK WB AD SR FW TB md_X10_copy 1 (.ifCond .lt 14, 0, 0, 0, []) := io_plain (by decide +kernel) rfl
theorem r_X10_copy_4 : IOK WB AD SR FW TB md_X10_copy 4 (.iload_n 1, 0, 0, 0, []) := io_plain (by decide +kernel) rfl
theorem r_X10_copy_5 : IOK WB AD SR FW TB md_X10_copy 5 (.aload_n 0, 0, 0, 0, []) := io_plain (by decide +kernel) rfl
theorem r_X10_copy_6 : IOK WB AD SR FW TB md_X10_copy 6 (.getfield 30, 11, 2, 2, []) := io_get (by decide +kernel) fo_RX10_30
theorem r_X10_copy_9 : IOK WB AD SR FW TB md_X10_copy 9 (.getfield 262, 3, 2, 0, []) := io_get (by decide +kernel) fo_RX10_262
theorem r_X10_copy_12 : IOK WB AD SR FW TB md_X10_copy 12 (.if_icmp .lt 14, 0, 0, 0, []) := io_plain (by decide +kernel) rfl
set_option maxRecDepth 100000 in
theorem r_X10_copy_15 : IOK WB AD SR FW TB md_X10_copy 15 (.new 93, 101, 374, 97, [1]) := io_thx 1 rfl (thk_mk RX10 rfl 93 374 97 1 "there is no such equation" true (List.mem_of_getElem? (i := 19) rfl) (by decide) (by decide +kernel) (by decide +kernel) ⟨by decide +kernel, by decide +kernel, by decide +kernel⟩ (wb_5 29 rfl rfl) (wb_1 22 rfl rfl) at_RX10_97_1 rfl) (by decide +kernel)
theorem r_X10_copy_18 : IOK WB AD SR FW TB md_X10_copy 18 (.dup, 0, 0, 0, []) := io_plain (by decide +kernel) rfl
set_option maxRecDepth 100000 in
theorem ok_X10_copy_0 : ∀ q ∈ tl_X10_copy, IOK WB AD SR FW TB md_X10_copy q.1 q.2 := List.forall_mem_cons.mpr ⟨r_X10_copy_0, List.forall_mem_cons.mpr ⟨r_X10_copy_1, List.forall_mem_cons.mpr ⟨r_X10_copy_4, List.forall_mem_cons.mpr ⟨r_X10_copy_5, List.forall_mem_cons.mpr ⟨r_X10_copy_6, List.forall_mem_cons.mpr ⟨r_X10_copy_9, List.forall_mem_cons.mpr ⟨r_X10_copy_12, List.forall_mem_cons.mpr ⟨r_X10_copy_15, List.forall_mem_cons.mpr ⟨r_X10_copy_18, fun _ h => absurd h List.not_mem_nil⟩⟩⟩⟩⟩⟩⟩⟩⟩
set_option maxRecDepth 100000 in
theorem tq_X10_copy_0 : tf_X10_copy = tl_X10_copy.map (fun q => (q.1, stepOf NPf md_X10_copy q.2)) := rfl
theorem ro_X10_copy : RowsOK (md_X10_copy, tl_X10_copy) tf_X10_copy := ⟨tq_X10_copy_0, ok_X10_copy_0⟩
theorem r_X17_open_0 : IOK WB AD SR FW TB md_X17_open 0 (.aload_n 0, 0, 0, 0, []) := io_plain (by decide +kernel) rfl
theorem r_X17_open_1 : IOK WB AD SR FW TB md_X17_open 1 (.invokevirtual 476, 58, 18, 0, []) := io_virt (by decide +kernel) tb_X17_allPairs (wb_9 209 rfl rfl) in_X17_allPairs se_X17_allPairs ⟨_, rfl, rfl⟩ pr_X17_allPairs (by decide)
theorem r_X17_open_4 : IOK WB AD SR FW TB md_X17_open 4 (.astore_n 1, 0, 0, 0, []) := io_plain (by decide +kernel) rfl
theorem r_X17_open_5 : IOK WB AD SR FW TB md_X17_open 5 (.iconst 0, 0, 0, 0, []) := io_plain (by decide +kernel) rfl
theorem r_X17_open_6 : IOK WB AD SR FW TB md_X17_open 6 (.istore_n 2, 0, 0, 0, []) := io_plain (by decide +kernel) rfl
theorem r_X17_open_7 : IOK WB AD SR FW TB md_X17_open 7 (.iload_n 2, 0, 0, 0, []) := io_plain (by decide +kernel) rfl
theorem r_X17_open_8 : IOK WB AD SR FW TB md_X17_open 8 (.aload_n 1, 0, 0, 0, []) := io_plain (by decide +kernel) rfl
theorem r_X17_open_9 : IOK WB AD SR FW TB md_X17_open 9 (.invokeinterface 271 1, 30, 0, 0, []) := io_face (by decide +kernel) tb_Jx4a65c_size_8abf5 (List.mem_of_getElem? (i := 0) rfl) (wb_8 32 rfl rfl) in_Jx4a65c_size_8abf5 (wb_8 35 rfl rfl) rfl rfl rfl pr_Jx4a65c_size_8abf5 (by decide)
theorem r_X17_open_14 : IOK WB AD SR FW TB md_X17_open 14 (.if_icmp .ge 52, 0, 0, 0, []) := io_plain (by decide +kernel) rfl
theorem r_X17_open_66 : IOK WB AD SR FW TB md_X17_open 66 (.aconst_null, 0, 0, 0, []) := io_plain (by decide +kernel) rfl
theorem r_X17_open_67 : IOK WB AD SR FW TB md_X17_open 67 (.areturn, 0, 0, 0, []) := io_aret (by decide +kernel) rfl
set_option maxRecDepth 100000 in
theorem ok_X17_open_0 : ∀ q ∈ tl_X17_open, IOK WB AD SR FW TB md_X17_open q.1 q.2 := List.forall_mem_cons.mpr ⟨r_X17_open_0, List.forall_mem_cons.mpr ⟨r_X17_open_1, List.forall_mem_cons.mpr ⟨r_X17_open_4, List.forall_mem_cons.mpr ⟨r_X17_open_5, List.forall_mem_cons.mpr ⟨r_X17_open_6, List.forall_mem_cons.mpr ⟨r_X17_open_7, List.forall_mem_cons.mpr ⟨r_X17_open_8, List.forall_mem_cons.mpr ⟨r_X17_open_9, List.forall_mem_cons.mpr ⟨r_X17_open_14, List.forall_mem_cons.mpr ⟨r_X17_open_66, List.forall_mem_cons.mpr ⟨r_X17_open_67, fun _ h => absurd h List.not_mem_nil⟩⟩⟩⟩⟩⟩⟩⟩⟩⟩⟩
set_option maxRecDepth 100000 in
theorem tq_X17_open_0 : tf_X17_open = tl_X17_open.map (fun q => (q.1, stepOf NPf md_X17_open q.2)) := rfl
theorem ro_X17_open : RowsOK (md_X17_open, tl_X17_open) tf_X17_open := ⟨tq_X17_open_0, ok_X17_open_0⟩
theorem r_X17_matchesAnew_0 : IOK WB AD SR FW TB md_X17_matchesAnew 0 (.aload_n 0, 0, 0, 0, []) := io_plain (by decide +kernel) rfl
theorem r_X17_matchesAnew_1 : IOK WB AD SR FW TB md_X17_matchesAnew 1 (.aload_n 0, 0, 0, 0, []) := io_plain (by decide +kernel) rfl
theorem r_X17_matchesAnew_2 : IOK WB AD SR FW TB md_X17_matchesAnew 2 (.invokevirtual 540, 76, 18, 0, []) := io_virt (by decide +kernel) tb_X17_hasBoth (wb_10 181 rfl rfl) in_X17_hasBoth se_X17_hasBoth ⟨_, rfl, rfl⟩ pr_X17_hasBoth (by decide)
theorem r_X17_matchesAnew_5 : IOK WB AD SR FW TB md_X17_matchesAnew 5 (.ifCond .eq 7, 0, 0, 0, []) := io_plain (by decide +kernel) rfl
theorem r_X17_matchesAnew_12 : IOK WB AD SR FW TB md_X17_matchesAnew 12 (.iconst 1, 0, 0, 0, []) := io_plain (by decide +kernel) rfl
theorem r_X17_matchesAnew_13 : IOK WB AD SR FW TB md_X17_matchesAnew 13 (.putfield 114, 18, 0, 0, []) := io_put (by decide +kernel) fo_RX17_114 po_RX17_0_18_0_0
theorem r_X17_matchesAnew_16 : IOK WB AD SR FW TB md_X17_matchesAnew 16 (.aload_n 0, 0, 0, 0, []) := io_plain (by decide +kernel) rfl
theorem r_X17_matchesAnew_17 : IOK WB AD SR FW TB md_X17_matchesAnew 17 (.getfield 114, 18, 0, 0, []) := io_get (by decide +kernel) fo_RX17_114
theorem r_X17_matchesAnew_20 : IOK WB AD SR FW TB md_X17_matchesAnew 20 (.ifCond .le 5, 0, 0, 0, []) := io_plain (by decide +kernel) rfl
theorem r_X17_matchesAnew_23 : IOK WB AD SR FW TB md_X17_matchesAnew 23 (.iconst 0, 0, 0, 0, []) := io_plain (by decide +kernel) rfl
theorem r_X17_matchesAnew_24 : IOK WB AD SR FW TB md_X17_matchesAnew 24 (.ireturn, 0, 0, 0, []) := io_plain (by decide +kernel) rfl
set_option maxRecDepth 100000 in
theorem ok_X17_matchesAnew_0 : ∀ q ∈ tl_X17_matchesAnew, IOK WB AD SR FW TB md_X17_matchesAnew q.1 q.2 := List.forall_mem_cons.mpr ⟨r_X17_matchesAnew_0, List.forall_mem_cons.mpr ⟨r_X17_matchesAnew_1, List.forall_mem_cons.mpr ⟨r_X17_matchesAnew_2, List.forall_mem_cons.mpr ⟨r_X17_matchesAnew_5, List.forall_mem_cons.mpr ⟨r_X17_matchesAnew_12, List.forall_mem_cons.mpr ⟨r_X17_matchesAnew_13, List.forall_mem_cons.mpr ⟨r_X17_matchesAnew_16, List.forall_mem_cons.mpr ⟨r_X17_matchesAnew_17, List.forall_mem_cons.mpr ⟨r_X17_matchesAnew_20, List.forall_mem_cons.mpr ⟨r_X17_matchesAnew_23, List.forall_mem_cons.mpr ⟨r_X17_matchesAnew_24, fun _ h => absurd h List.not_mem_nil⟩⟩⟩⟩⟩⟩⟩⟩⟩⟩⟩
set_option maxRecDepth 100000 in
theorem tq_X17_matchesAnew_0 : tf_X17_matchesAnew = tl_X17_matchesAnew.map (fun q => (q.1, stepOf NPf md_X17_matchesAnew q.2)) := rfl
theorem ro_X17_matchesAnew : RowsOK (md_X17_matchesAnew, tl_X17_matchesAnew) tf_X17_matchesAnew := ⟨tq_X17_matchesAnew_0, ok_X17_matchesAnew_0⟩
theorem r_X17_match_0 : IOK WB AD SR FW TB md_X17_match 0 (.aload_n 0, 0, 0, 0, []) := io_plain (by decide +kernel) rfl
theorem r_X17_match_1 : IOK WB AD SR FW TB md_X17_match 1 (.aload_n 0, 0, 0, 0, []) := io_plain (by decide +kernel) rfl
theorem r_X17_match_2 : IOK WB AD SR FW TB md_X17_match 2 (.invokevirtual 540, 76, 18, 0, []) := io_virt (by decide +kernel) tb_X17_hasBoth (wb_10 181 rfl rfl) in_X17_hasBoth se_X17_hasBoth ⟨_, rfl, rfl⟩ pr_X17_hasBoth (by decide)
theorem r_X17_match_5 : IOK WB AD SR FW TB md_X17_match 5 (.ifCond .eq 7, 0, 0, 0, []) := io_plain (by decide +kernel) rfl
theorem r_X17_match_12 : IOK WB AD SR FW TB md_X17_match 12 (.iconst 2, 0, 0, 0, []) := io_plain (by decide +kernel) rfl
theorem r_X17_match_13 : IOK WB AD SR FW TB md_X17_match 13 (.putfield 114, 18, 0, 0, []) := io_put (by decide +kernel) fo_RX17_114 po_RX17_0_18_0_0
theorem r_X17_match_16 : IOK WB AD SR FW TB md_X17_match 16 (.aload_n 0, 0, 0, 0, []) := io_plain (by decide +kernel) rfl
theorem r_X17_match_17 : IOK WB AD SR FW TB md_X17_match 17 (.getfield 114, 18, 0, 0, []) := io_get (by decide +kernel) fo_RX17_114
theorem r_X17_match_20 : IOK WB AD SR FW TB md_X17_match 20 (.ifCond .le 5, 0, 0, 0, []) := io_plain (by decide +kernel) rfl
theorem r_X17_match_23 : IOK WB AD SR FW TB md_X17_match 23 (.iconst 0, 0, 0, 0, []) := io_plain (by decide +kernel) rfl
theorem r_X17_match_24 : IOK WB AD SR FW TB md_X17_match 24 (.ireturn, 0, 0, 0, []) := io_plain (by decide +kernel) rfl
set_option maxRecDepth 100000 in
theorem ok_X17_match_0 : ∀ q ∈ tl_X17_match, IOK WB AD SR FW TB md_X17_match q.1 q.2 := List.forall_mem_cons.mpr ⟨r_X17_match_0, List.forall_mem_cons.mpr ⟨r_X17_match_1, List.forall_mem_cons.mpr ⟨r_X17_match_2, List.forall_mem_cons.mpr ⟨r_X17_match_5, List.forall_mem_cons.mpr ⟨r_X17_match_12, List.forall_mem_cons.mpr ⟨r_X17_match_13, List.forall_mem_cons.mpr ⟨r_X17_match_16, List.forall_mem_cons.mpr ⟨r_X17_match_17, List.forall_mem_cons.mpr ⟨r_X17_match_20, List.forall_mem_cons.mpr ⟨r_X17_match_23, List.forall_mem_cons.mpr ⟨r_X17_match_24, fun _ h => absurd h List.not_mem_nil⟩⟩⟩⟩⟩⟩⟩⟩⟩⟩⟩
set_option maxRecDepth 100000 in
theorem tq_X17_match_0 : tf_X17_match = tl_X17_match.map (fun q => (q.1, stepOf NPf md_X17_match q.2)) := rfl
theorem ro_X17_match : RowsOK (md_X17_match, tl_X17_match) tf_X17_match := ⟨tq_X17_match_0, ok_X17_match_0⟩
theorem r_X10_pairs_0 : IOK WB AD SR FW TB md_X10_pairs 0 (.aload_n 0, 0, 0, 0, []) := io_plain (by decide +kernel) rfl
theorem r_X10_pairs_1 : IOK WB AD SR FW TB md_X10_pairs 1 (.getfield 21, 11, 1, 2, []) := io_get (by decide +kernel) fo_RX10_21
theorem r_X10_pairs_4 : IOK WB AD SR FW TB md_X10_pairs 4 (.invokevirtual 173, 44, 9, 0, []) := io_virt (by decide +kernel) tb_X8_startAnew (wb_3 128 rfl rfl) in_X8_startAnew se_X8_startAnew ⟨_, rfl, rfl⟩ pr_X8_startAnew (by decide)
theorem r_X10_pairs_7 : IOK WB AD SR FW TB md_X10_pairs 7 (.aload_n 0, 0, 0, 0, []) := io_plain (by decide +kernel) rfl
theorem r_X10_pairs_8 : IOK WB AD SR FW TB md_X10_pairs 8 (.getfield 74, 11, 7, 2, []) := io_get (by decide +kernel) fo_RX10_74
theorem r_X10_pairs_11 : IOK WB AD SR FW TB md_X10_pairs 11 (.invokevirtual 358, 64, 1, 0, []) := io_virt (by decide +kernel) tb_X0_bringUpToDate (wb_3 137 rfl rfl) in_X0_bringUpToDate se_X0_bringUpToDate ⟨_, rfl, rfl⟩ pr_X0_bringUpToDate (by decide)
theorem r_X10_pairs_14 : IOK WB AD SR FW TB md_X10_pairs 14 (.aload_n 0, 0, 0, 0, []) := io_plain (by decide +kernel) rfl
theorem r_X10_pairs_15 : IOK WB AD SR FW TB md_X10_pairs 15 (.getfield 74, 11, 7, 2, []) := io_get (by decide +kernel) fo_RX10_74
theorem r_X10_pairs_18 : IOK WB AD SR FW TB md_X10_pairs 18 (.getfield 361, 1, 4, 0, []) := io_get (by decide +kernel) fo_RX10_361
theorem r_X10_pairs_21 : IOK WB AD SR FW TB md_X10_pairs 21 (.ireturn, 0, 0, 0, []) := io_plain (by decide +kernel) rfl
set_option maxRecDepth 100000 in
theorem ok_X10_pairs_0 : ∀ q ∈ tl_X10_pairs, IOK WB AD SR FW TB md_X10_pairs q.1 q.2 := List.forall_mem_cons.mpr ⟨r_X10_pairs_0, List.forall_mem_cons.mpr ⟨r_X10_pairs_1, List.forall_mem_cons.mpr ⟨r_X10_pairs_4, List.forall_mem_cons.mpr ⟨r_X10_pairs_7, List.forall_mem_cons.mpr ⟨r_X10_pairs_8, List.forall_mem_cons.mpr ⟨r_X10_pairs_11, List.forall_mem_cons.mpr ⟨r_X10_pairs_14, List.forall_mem_cons.mpr ⟨r_X10_pairs_15, List.forall_mem_cons.mpr ⟨r_X10_pairs_18, List.forall_mem_cons.mpr ⟨r_X10_pairs_21, fun _ h => absurd h List.not_mem_nil⟩⟩⟩⟩⟩⟩⟩⟩⟩⟩
set_option maxRecDepth 100000 in
theorem tq_X10_pairs_0 : tf_X10_pairs = tl_X10_pairs.map (fun q => (q.1, stepOf NPf md_X10_pairs q.2)) := rfl
theorem ro_X10_pairs : RowsOK (md_X10_pairs, tl_X10_pairs) tf_X10_pairs := ⟨tq_X10_pairs_0, ok_X10_pairs_0⟩
theorem r_X17_adds_0 : IOK WB AD SR FW TB md_X17_adds 0 (.aload_n 0, 0, 0, 0, []) := io_plain (by decide +kernel) rfl
theorem r_X17_adds_1 : IOK WB AD SR FW TB md_X17_adds 1 (.getfield 60, 18, 17, 2, []) := io_get (by decide +kernel) fo_RX17_60
theorem r_X17_adds_4 : IOK WB AD SR FW TB md_X17_adds 4 (.aload_n 1, 0, 0, 0, []) := io_plain (by decide +kernel) rfl
theorem r_X17_adds_5 : IOK WB AD SR FW TB md_X17_adds 5 (.invokeinterface 344 2, 33, 0, 0, []) := io_face (by decide +kernel) tb_Jx4a65c_add_9ea2d (List.mem_of_getElem? (i := 1) rfl) (wb_9 10 rfl rfl) in_Jx4a65c_add_9ea2d (wb_9 13 rfl rfl) rfl rfl rfl pr_Jx4a65c_add_9ea2d (by decide)
theorem r_X17_adds_10 : IOK WB AD SR FW TB md_X17_adds 10 (.pop, 0, 0, 0, []) := io_plain (by decide +kernel) rfl
theorem r_X17_adds_11 : IOK WB AD SR FW TB md_X17_adds 11 (.aload_n 0, 0, 0, 0, []) := io_plain (by decide +kernel) rfl
theorem r_X17_adds_12 : IOK WB AD SR FW TB md_X17_adds 12 (.getfield 60, 18, 17, 2, []) := io_get (by decide +kernel) fo_RX17_60
theorem r_X17_adds_15 : IOK WB AD SR FW TB md_X17_adds 15 (.invokeinterface 271 1, 30, 0, 0, []) := io_face (by decide +kernel) tb_Jx4a65c_size_8abf5 (List.mem_of_getElem? (i := 0) rfl) (wb_8 32 rfl rfl) in_Jx4a65c_size_8abf5 (wb_8 35 rfl rfl) rfl rfl rfl pr_Jx4a65c_size_8abf5 (by decide)
theorem r_X17_adds_20 : IOK WB AD SR FW TB md_X17_adds 20 (.ireturn, 0, 0, 0, []) := io_plain (by decide +kernel) rfl
set_option maxRecDepth 100000 in
theorem ok_X17_adds_0 : ∀ q ∈ tl_X17_adds, IOK WB AD SR FW TB md_X17_adds q.1 q.2 := List.forall_mem_cons.mpr ⟨r_X17_adds_0, List.forall_mem_cons.mpr ⟨r_X17_adds_1, List.forall_mem_cons.mpr ⟨r_X17_adds_4, List.forall_mem_cons.mpr ⟨r_X17_adds_5, List.forall_mem_cons.mpr ⟨r_X17_adds_10, List.forall_mem_cons.mpr ⟨r_X17_adds_11, List.forall_mem_cons.mpr ⟨r_X17_adds_12, List.forall_mem_cons.mpr ⟨r_X17_adds_15, List.forall_mem_cons.mpr ⟨r_X17_adds_20, fun _ h => absurd h List.not_mem_nil⟩⟩⟩⟩⟩⟩⟩⟩⟩
set_option maxRecDepth 100000 in
theorem tq_X17_adds_0 : tf_X17_adds = tl_X17_adds.map (fun q => (q.1, stepOf NPf md_X17_adds q.2)) := rfl
theorem ro_X17_adds : RowsOK (md_X17_adds, tl_X17_adds) tf_X17_adds := ⟨tq_X17_adds_0, ok_X17_adds_0⟩
theorem r_L_sort_0 : IOK WB AD SR FW TB md_L_sort 0 (.aload_n 1, 0, 0, 0, []) := io_plain (by decide +kernel) rfl
theorem r_L_sort_1 : IOK WB AD SR FW TB md_L_sort 1 (.iconst 0, 0, 0, 0, []) := io_plain (by decide +kernel) rfl
theorem r_L_sort_2 : IOK WB AD SR FW TB md_L_sort 2 (.aload_n 0, 0, 0, 0, []) := io_plain (by decide +kernel) rfl
theorem r_L_sort_3 : IOK WB AD SR FW TB md_L_sort 3 (.invokevirtual 7, 83, 11, 0, []) := io_virt (by decide +kernel) tb_X10_sort (wb_4 184 rfl rfl) in_X10_sort se_X10_sort ⟨_, rfl, rfl⟩ pr_X10_sort (by decide)
theorem r_L_sort_6 : IOK WB AD SR FW TB md_L_sort 6 (.i2l, 0, 0, 0, []) := io_plain (by decide +kernel) rfl
theorem r_L_sort_7 : IOK WB AD SR FW TB md_L_sort 7 (.lastore, 0, 0, 0, []) := io_plain (by decide +kernel) rfl
theorem r_L_sort_8 : IOK WB AD SR FW TB md_L_sort 8 (.goto 6, 0, 0, 0, []) := io_plain (by decide +kernel) rfl
theorem r_L_sort_14 : IOK WB AD SR FW TB md_L_sort 14 (.iconst 0, 0, 0, 0, []) := io_plain (by decide +kernel) rfl
theorem r_L_sort_15 : IOK WB AD SR FW TB md_L_sort 15 (.ireturn, 0, 0, 0, []) := io_plain (by decide +kernel) rfl
set_option maxRecDepth 100000 in
theorem ok_L_sort_0 : ∀ q ∈ tl_L_sort, IOK WB AD SR FW TB md_L_sort q.1 q.2 := List.forall_mem_cons.mpr ⟨r_L_sort_0, List.forall_mem_cons.mpr ⟨r_L_sort_1, List.forall_mem_cons.mpr ⟨r_L_sort_2, List.forall_mem_cons.mpr ⟨r_L_sort_3, List.forall_mem_cons.mpr ⟨r_L_sort_6, List.forall_mem_cons.mpr ⟨r_L_sort_7, List.forall_mem_cons.mpr ⟨r_L_sort_8, List.forall_mem_cons.mpr ⟨r_L_sort_14, List.forall_mem_cons.mpr ⟨r_L_sort_15, fun _ h => absurd h List.not_mem_nil⟩⟩⟩⟩⟩⟩⟩⟩⟩
set_option maxRecDepth 100000 in
theorem tq_L_sort_0 : tf_L_sort = tl_L_sort.map (fun q => (q.1, stepOf NPf md_L_sort q.2)) := rfl
theorem ro_L_sort : RowsOK (md_L_sort, tl_L_sort) tf_L_sort := ⟨tq_L_sort_0, ok_L_sort_0⟩
theorem r_L_match_0 : IOK WB AD SR FW TB md_L_match 0 (.aload_n 3, 0, 0, 0, []) := io_plain (by decide +kernel) rfl
theorem r_L_match_1 : IOK WB AD SR FW TB md_L_match 1 (.iconst 0, 0, 0, 0, []) := io_plain (by decide +kernel) rfl
theorem r_L_match_2 : IOK WB AD SR FW TB md_L_match 2 (.aload_n 0, 0, 0, 0, []) := io_plain (by decide +kernel) rfl
theorem r_L_match_3 : IOK WB AD SR FW TB md_L_match 3 (.iload_n 1, 0, 0, 0, []) := io_plain (by decide +kernel) rfl
theorem r_L_match_4 : IOK WB AD SR FW TB md_L_match 4 (.iload_n 2, 0, 0, 0, []) := io_plain (by decide +kernel) rfl
theorem r_L_match_5 : IOK WB AD SR FW TB md_L_match 5 (.invokevirtual 60, 151, 11, 0, []) := io_virt (by decide +kernel) tb_X10_match (wb_5 219 rfl rfl) in_X10_match se_X10_match ⟨_, rfl, rfl⟩ pr_X10_match (by decide)
theorem r_L_match_17 : IOK WB AD SR FW TB md_L_match 17 (.astore 4, 0, 0, 0, []) := io_plain (by decide +kernel) rfl
theorem r_L_match_19 : IOK WB AD SR FW TB md_L_match 19 (.iconst 2, 0, 0, 0, []) := io_plain (by decide +kernel) rfl
theorem r_L_match_20 : IOK WB AD SR FW TB md_L_match 20 (.ireturn, 0, 0, 0, []) := io_plain (by decide +kernel) rfl
set_option maxRecDepth 100000 in
theorem ok_L_match_0 : ∀ q ∈ tl_L_match, IOK WB AD SR FW TB md_L_match q.1 q.2 := List.forall_mem_cons.mpr ⟨r_L_match_0, List.forall_mem_cons.mpr ⟨r_L_match_1, List.forall_mem_cons.mpr ⟨r_L_match_2, List.forall_mem_cons.mpr ⟨r_L_match_3, List.forall_mem_cons.mpr ⟨r_L_match_4, List.forall_mem_cons.mpr ⟨r_L_match_5, List.forall_mem_cons.mpr ⟨r_L_match_17, List.forall_mem_cons.mpr ⟨r_L_match_19, List.forall_mem_cons.mpr ⟨r_L_match_20, fun _ h => absurd h List.not_mem_nil⟩⟩⟩⟩⟩⟩⟩⟩⟩
set_option maxRecDepth 100000 in
theorem tq_L_match_0 : tf_L_match = tl_L_match.map (fun q => (q.1, stepOf NPf md_L_match q.2)) := rfl
theorem ro_L_match : RowsOK (md_L_match, tl_L_match) tf_L_match := ⟨tq_L_match_0, ok_L_match_0⟩
theorem r_L_idle_0 : IOK WB AD SR FW TB md_L_idle 0 (.aload_n 1, 0, 0, 0, []) := io_plain (by decide +kernel) rfl
theorem r_L_idle_1 : IOK WB AD SR FW TB md_L_idle 1 (.iconst 0, 0, 0, 0, []) := io_plain (by decide +kernel) rfl
theorem r_L_idle_2 : IOK WB AD SR FW TB md_L_idle 2 (.aload_n 0, 0, 0, 0, []) := io_plain (by decide +kernel) rfl
theorem r_L_idle_3 : IOK WB AD SR FW TB md_L_idle 3 (.invokevirtual 95, 118, 11, 0, []) := io_virt (by decide +kernel) tb_X10_idle (wb_6 140 rfl rfl) in_X10_idle se_X10_idle ⟨_, rfl, rfl⟩ pr_X10_idle (by decide)
theorem r_L_idle_6 : IOK WB AD SR FW TB md_L_idle 6 (.i2l, 0, 0, 0, []) := io_plain (by decide +kernel) rfl
theorem r_L_idle_7 : IOK WB AD SR FW TB md_L_idle 7 (.lastore, 0, 0, 0, []) := io_plain (by decide +kernel) rfl
theorem r_L_idle_8 : IOK WB AD SR FW TB md_L_idle 8 (.goto 6, 0, 0, 0, []) := io_plain (by decide +kernel) rfl
theorem r_L_idle_14 : IOK WB AD SR FW TB md_L_idle 14 (.iconst 0, 0, 0, 0, []) := io_plain (by decide +kernel) rfl
theorem r_L_idle_15 : IOK WB AD SR FW TB md_L_idle 15 (.ireturn, 0, 0, 0, []) := io_plain (by decide +kernel) rfl
set_option maxRecDepth 100000 in
theorem ok_L_idle_0 : ∀ q ∈ tl_L_idle, IOK WB AD SR FW TB md_L_idle q.1 q.2 := List.forall_mem_cons.mpr ⟨r_L_idle_0, List.forall_mem_cons.mpr ⟨r_L_idle_1, List.forall_mem_cons.mpr ⟨r_L_idle_2, List.forall_mem_cons.mpr ⟨r_L_idle_3, List.forall_mem_cons.mpr ⟨r_L_idle_6, List.forall_mem_cons.mpr ⟨r_L_idle_7, List.forall_mem_cons.mpr ⟨r_L_idle_8, List.forall_mem_cons.mpr ⟨r_L_idle_14, List.forall_mem_cons.mpr ⟨r_L_idle_15, fun _ h => absurd h List.not_mem_nil⟩⟩⟩⟩⟩⟩⟩⟩⟩
set_option maxRecDepth 100000 in
theorem tq_L_idle_0 : tf_L_idle = tl_L_idle.map (fun q => (q.1, stepOf NPf md_L_idle q.2)) := rfl
theorem ro_L_idle : RowsOK (md_L_idle, tl_L_idle) tf_L_idle := ⟨tq_L_idle_0, ok_L_idle_0⟩
theorem r_X10_drop_0 : IOK WB AD SR FW TB md_X10_drop 0 (.aload_n 0, 0, 0, 0, []) := io_plain (by decide +kernel) rfl
theorem r_X10_drop_1 : IOK WB AD SR FW TB md_X10_drop 1 (.getfield 160, 11, 8, 0, []) := io_get (by decide +kernel) fo_RX10_160
theorem r_X10_drop_4 : IOK WB AD SR FW TB md_X10_drop 4 (.istore_n 1, 0, 0, 0, []) := io_plain (by decide +kernel) rfl
theorem r_X10_drop_5 : IOK WB AD SR FW TB md_X10_drop 5 (.aload_n 0, 0, 0, 0, []) := io_plain (by decide +kernel) rfl
theorem r_X10_drop_6 : IOK WB AD SR FW TB md_X10_drop 6 (.iconst 0, 0, 0, 0, []) := io_plain (by decide +kernel) rfl
theorem r_X10_drop_7 : IOK WB AD SR FW TB md_X10_drop 7 (.putfield 160, 11, 8, 0, []) := io_put (by decide +kernel) fo_RX10_160 po_RX10_0_11_8_0
theorem r_X10_drop_10 : IOK WB AD SR FW TB md_X10_drop 10 (.iload_n 1, 0, 0, 0, []) := io_plain (by decide +kernel) rfl
theorem r_X10_drop_11 : IOK WB AD SR FW TB md_X10_drop 11 (.ireturn, 0, 0, 0, []) := io_plain (by decide +kernel) rfl
set_option maxRecDepth 100000 in
theorem ok_X10_drop_0 : ∀ q ∈ tl_X10_drop, IOK WB AD SR FW TB md_X10_drop q.1 q.2 := List.forall_mem_cons.mpr ⟨r_X10_drop_0, List.forall_mem_cons.mpr ⟨r_X10_drop_1, List.forall_mem_cons.mpr ⟨r_X10_drop_4, List.forall_mem_cons.mpr ⟨r_X10_drop_5, List.forall_mem_cons.mpr ⟨r_X10_drop_6, List.forall_mem_cons.mpr ⟨r_X10_drop_7, List.forall_mem_cons.mpr ⟨r_X10_drop_10, List.forall_mem_cons.mpr ⟨r_X10_drop_11, fun _ h => absurd h List.not_mem_nil⟩⟩⟩⟩⟩⟩⟩⟩
set_option maxRecDepth 100000 in
theorem tq_X10_drop_0 : tf_X10_drop = tl_X10_drop.map (fun q => (q.1, stepOf NPf md_X10_drop q.2)) := rfl
theorem ro_X10_drop : RowsOK (md_X10_drop, tl_X10_drop) tf_X10_drop := ⟨tq_X10_drop_0, ok_X10_drop_0⟩
theorem r_L_code_0 : IOK WB AD SR FW TB md_L_code 0 (.aload_n 2, 0, 0, 0, []) := io_plain (by decide +kernel) rfl
theorem r_L_code_1 : IOK WB AD SR FW TB md_L_code 1 (.iconst 0, 0, 0, 0, []) := io_plain (by decide +kernel) rfl
theorem r_L_code_2 : IOK WB AD SR FW TB md_L_code 2 (.aload_n 0, 0, 0, 0, []) := io_plain (by decide +kernel) rfl
theorem r_L_code_3 : IOK WB AD SR FW TB md_L_code 3 (.iload_n 1, 0, 0, 0, []) := io_plain (by decide +kernel) rfl
theorem r_L_code_4 : IOK WB AD SR FW TB md_L_code 4 (.invokevirtual 51, 148, 11, 0, []) := io_virt (by decide +kernel) tb_X10_code (wb_5 178 rfl rfl) in_X10_code se_X10_code ⟨_, rfl, rfl⟩ pr_X10_code (by decide)
theorem r_L_code_15 : IOK WB AD SR FW TB md_L_code 15 (.astore_n 3, 0, 0, 0, []) := io_plain (by decide +kernel) rfl
theorem r_L_code_16 : IOK WB AD SR FW TB md_L_code 16 (.iconst 2, 0, 0, 0, []) := io_plain (by decide +kernel) rfl
theorem r_L_code_17 : IOK WB AD SR FW TB md_L_code 17 (.ireturn, 0, 0, 0, []) := io_plain (by decide +kernel) rfl
set_option maxRecDepth 100000 in
theorem ok_L_code_0 : ∀ q ∈ tl_L_code, IOK WB AD SR FW TB md_L_code q.1 q.2 := List.forall_mem_cons.mpr ⟨r_L_code_0, List.forall_mem_cons.mpr ⟨r_L_code_1, List.forall_mem_cons.mpr ⟨r_L_code_2, List.forall_mem_cons.mpr ⟨r_L_code_3, List.forall_mem_cons.mpr ⟨r_L_code_4, List.forall_mem_cons.mpr ⟨r_L_code_15, List.forall_mem_cons.mpr ⟨r_L_code_16, List.forall_mem_cons.mpr ⟨r_L_code_17, fun _ h => absurd h List.not_mem_nil⟩⟩⟩⟩⟩⟩⟩⟩
set_option maxRecDepth 100000 in
theorem tq_L_code_0 : tf_L_code = tl_L_code.map (fun q => (q.1, stepOf NPf md_L_code q.2)) := rfl
theorem ro_L_code : RowsOK (md_L_code, tl_L_code) tf_L_code := ⟨tq_L_code_0, ok_L_code_0⟩
theorem r_L_finds_0 : IOK WB AD SR FW TB md_L_finds 0 (.aload_n 2, 0, 0, 0, []) := io_plain (by decide +kernel) rfl
theorem r_L_finds_1 : IOK WB AD SR FW TB md_L_finds 1 (.iconst 0, 0, 0, 0, []) := io_plain (by decide +kernel) rfl
theorem r_L_finds_2 : IOK WB AD SR FW TB md_L_finds 2 (.aload_n 0, 0, 0, 0, []) := io_plain (by decide +kernel) rfl
theorem r_L_finds_3 : IOK WB AD SR FW TB md_L_finds 3 (.iload_n 1, 0, 0, 0, []) := io_plain (by decide +kernel) rfl
theorem r_L_finds_4 : IOK WB AD SR FW TB md_L_finds 4 (.invokevirtual 85, 158, 11, 0, []) := io_virt (by decide +kernel) tb_X10_finds (wb_6 93 rfl rfl) in_X10_finds se_X10_finds ⟨_, rfl, rfl⟩ pr_X10_finds (by decide)
theorem r_L_finds_15 : IOK WB AD SR FW TB md_L_finds 15 (.astore_n 3, 0, 0, 0, []) := io_plain (by decide +kernel) rfl
theorem r_L_finds_16 : IOK WB AD SR FW TB md_L_finds 16 (.iconst 2, 0, 0, 0, []) := io_plain (by decide +kernel) rfl
theorem r_L_finds_17 : IOK WB AD SR FW TB md_L_finds 17 (.ireturn, 0, 0, 0, []) := io_plain (by decide +kernel) rfl
set_option maxRecDepth 100000 in
theorem ok_L_finds_0 : ∀ q ∈ tl_L_finds, IOK WB AD SR FW TB md_L_finds q.1 q.2 := List.forall_mem_cons.mpr ⟨r_L_finds_0, List.forall_mem_cons.mpr ⟨r_L_finds_1, List.forall_mem_cons.mpr ⟨r_L_finds_2, List.forall_mem_cons.mpr ⟨r_L_finds_3, List.forall_mem_cons.mpr ⟨r_L_finds_4, List.forall_mem_cons.mpr ⟨r_L_finds_15, List.forall_mem_cons.mpr ⟨r_L_finds_16, List.forall_mem_cons.mpr ⟨r_L_finds_17, fun _ h => absurd h List.not_mem_nil⟩⟩⟩⟩⟩⟩⟩⟩
set_option maxRecDepth 100000 in
theorem tq_L_finds_0 : tf_L_finds = tl_L_finds.map (fun q => (q.1, stepOf NPf md_L_finds q.2)) := rfl
theorem ro_L_finds : RowsOK (md_L_finds, tl_L_finds) tf_L_finds := ⟨tq_L_finds_0, ok_L_finds_0⟩
theorem r_X17_pairs_0 : IOK WB AD SR FW TB md_X17_pairs 0 (.aload_n 0, 0, 0, 0, []) := io_plain (by decide +kernel) rfl
theorem r_X17_pairs_1 : IOK WB AD SR FW TB md_X17_pairs 1 (.iconst 0, 0, 0, 0, []) := io_plain (by decide +kernel) rfl
theorem r_X17_pairs_2 : IOK WB AD SR FW TB md_X17_pairs 2 (.putfield 114, 18, 0, 0, []) := io_put (by decide +kernel) fo_RX17_114 po_RX17_0_18_0_0
theorem r_X17_pairs_5 : IOK WB AD SR FW TB md_X17_pairs 5 (.aload_n 0, 0, 0, 0, []) := io_plain (by decide +kernel) rfl
theorem r_X17_pairs_6 : IOK WB AD SR FW TB md_X17_pairs 6 (.invokevirtual 476, 58, 18, 0, []) := io_virt (by decide +kernel) tb_X17_allPairs (wb_9 209 rfl rfl) in_X17_allPairs se_X17_allPairs ⟨_, rfl, rfl⟩ pr_X17_allPairs (by decide)
theorem r_X17_pairs_9 : IOK WB AD SR FW TB md_X17_pairs 9 (.invokeinterface 271 1, 30, 0, 0, []) := io_face (by decide +kernel) tb_Jx4a65c_size_8abf5 (List.mem_of_getElem? (i := 0) rfl) (wb_8 32 rfl rfl) in_Jx4a65c_size_8abf5 (wb_8 35 rfl rfl) rfl rfl rfl pr_Jx4a65c_size_8abf5 (by decide)
theorem r_X17_pairs_14 : IOK WB AD SR FW TB md_X17_pairs 14 (.ireturn, 0, 0, 0, []) := io_plain (by decide +kernel) rfl
set_option maxRecDepth 100000 in
theorem ok_X17_pairs_0 : ∀ q ∈ tl_X17_pairs, IOK WB AD SR FW TB md_X17_pairs q.1 q.2 := List.forall_mem_cons.mpr ⟨r_X17_pairs_0, List.forall_mem_cons.mpr ⟨r_X17_pairs_1, List.forall_mem_cons.mpr ⟨r_X17_pairs_2, List.forall_mem_cons.mpr ⟨r_X17_pairs_5, List.forall_mem_cons.mpr ⟨r_X17_pairs_6, List.forall_mem_cons.mpr ⟨r_X17_pairs_9, List.forall_mem_cons.mpr ⟨r_X17_pairs_14, fun _ h => absurd h List.not_mem_nil⟩⟩⟩⟩⟩⟩⟩
set_option maxRecDepth 100000 in
theorem tq_X17_pairs_0 : tf_X17_pairs = tl_X17_pairs.map (fun q => (q.1, stepOf NPf md_X17_pairs q.2)) := rfl
theorem ro_X17_pairs : RowsOK (md_X17_pairs, tl_X17_pairs) tf_X17_pairs := ⟨tq_X17_pairs_0, ok_X17_pairs_0⟩
theorem r_X17_equations_0 : IOK WB AD SR FW TB md_X17_equations 0 (.aload_n 0, 0, 0, 0, []) := io_plain (by decide +kernel) rfl
theorem r_X17_equations_1 : IOK WB AD SR FW TB md_X17_equations 1 (.iconst 0, 0, 0, 0, []) := io_plain (by decide +kernel) rfl
theorem r_X17_equations_2 : IOK WB AD SR FW TB md_X17_equations 2 (.putfield 114, 18, 0, 0, []) := io_put (by decide +kernel) fo_RX17_114 po_RX17_0_18_0_0
theorem r_X17_equations_5 : IOK WB AD SR FW TB md_X17_equations 5 (.aload_n 0, 0, 0, 0, []) := io_plain (by decide +kernel) rfl
theorem r_X17_equations_6 : IOK WB AD SR FW TB md_X17_equations 6 (.getfield 54, 18, 15, 2, []) := io_get (by decide +kernel) fo_RX17_54
theorem r_X17_equations_9 : IOK WB AD SR FW TB md_X17_equations 9 (.invokeinterface 271 1, 30, 0, 0, []) := io_face (by decide +kernel) tb_Jx4a65c_size_8abf5 (List.mem_of_getElem? (i := 0) rfl) (wb_8 32 rfl rfl) in_Jx4a65c_size_8abf5 (wb_8 35 rfl rfl) rfl rfl rfl pr_Jx4a65c_size_8abf5 (by decide)
theorem r_X17_equations_14 : IOK WB AD SR FW TB md_X17_equations 14 (.ireturn, 0, 0, 0, []) := io_plain (by decide +kernel) rfl
set_option maxRecDepth 100000 in
theorem ok_X17_equations_0 : ∀ q ∈ tl_X17_equations, IOK WB AD SR FW TB md_X17_equations q.1 q.2 := List.forall_mem_cons.mpr ⟨r_X17_equations_0, List.forall_mem_cons.mpr ⟨r_X17_equations_1, List.forall_mem_cons.mpr ⟨r_X17_equations_2, List.forall_mem_cons.mpr ⟨r_X17_equations_5, List.forall_mem_cons.mpr ⟨r_X17_equations_6, List.forall_mem_cons.mpr ⟨r_X17_equations_9, List.forall_mem_cons.mpr ⟨r_X17_equations_14, fun _ h => absurd h List.not_mem_nil⟩⟩⟩⟩⟩⟩⟩
set_option maxRecDepth 100000 in
theorem tq_X17_equations_0 : tf_X17_equations = tl_X17_equations.map (fun q => (q.1, stepOf NPf md_X17_equations q.2)) := rfl
theorem ro_X17_equations : RowsOK (md_X17_equations, tl_X17_equations) tf_X17_equations := ⟨tq_X17_equations_0, ok_X17_equations_0⟩
theorem r_L_sortOf_0 : IOK WB AD SR FW TB md_L_sortOf 0 (.aload_n 1, 0, 0, 0, []) := io_plain (by decide +kernel) rfl
theorem r_L_sortOf_1 : IOK WB AD SR FW TB md_L_sortOf 1 (.iconst 0, 0, 0, 0, []) := io_plain (by decide +kernel) rfl
theorem r_L_sortOf_2 : IOK WB AD SR FW TB md_L_sortOf 2 (.aload_n 0, 0, 0, 0, []) := io_plain (by decide +kernel) rfl
theorem r_L_sortOf_3 : IOK WB AD SR FW TB md_L_sortOf 3 (.invokevirtual 48, 147, 11, 0, []) := io_virt (by decide +kernel) tb_X10_sortOf (wb_5 165 rfl rfl) in_X10_sortOf se_X10_sortOf ⟨_, rfl, rfl⟩ pr_X10_sortOf (by decide)
theorem r_L_sortOf_11 : IOK WB AD SR FW TB md_L_sortOf 11 (.astore_n 2, 0, 0, 0, []) := io_plain (by decide +kernel) rfl
theorem r_L_sortOf_12 : IOK WB AD SR FW TB md_L_sortOf 12 (.iconst 1, 0, 0, 0, []) := io_plain (by decide +kernel) rfl
theorem r_L_sortOf_13 : IOK WB AD SR FW TB md_L_sortOf 13 (.ireturn, 0, 0, 0, []) := io_plain (by decide +kernel) rfl
set_option maxRecDepth 100000 in
theorem ok_L_sortOf_0 : ∀ q ∈ tl_L_sortOf, IOK WB AD SR FW TB md_L_sortOf q.1 q.2 := List.forall_mem_cons.mpr ⟨r_L_sortOf_0, List.forall_mem_cons.mpr ⟨r_L_sortOf_1, List.forall_mem_cons.mpr ⟨r_L_sortOf_2, List.forall_mem_cons.mpr ⟨r_L_sortOf_3, List.forall_mem_cons.mpr ⟨r_L_sortOf_11, List.forall_mem_cons.mpr ⟨r_L_sortOf_12, List.forall_mem_cons.mpr ⟨r_L_sortOf_13, fun _ h => absurd h List.not_mem_nil⟩⟩⟩⟩⟩⟩⟩
set_option maxRecDepth 100000 in
theorem tq_L_sortOf_0 : tf_L_sortOf = tl_L_sortOf.map (fun q => (q.1, stepOf NPf md_L_sortOf q.2)) := rfl
theorem ro_L_sortOf : RowsOK (md_L_sortOf, tl_L_sortOf) tf_L_sortOf := ⟨tq_L_sortOf_0, ok_L_sortOf_0⟩
theorem r_L_matches_0 : IOK WB AD SR FW TB md_L_matches 0 (.aload_n 1, 0, 0, 0, []) := io_plain (by decide +kernel) rfl
theorem r_L_matches_1 : IOK WB AD SR FW TB md_L_matches 1 (.iconst 0, 0, 0, 0, []) := io_plain (by decide +kernel) rfl
theorem r_L_matches_2 : IOK WB AD SR FW TB md_L_matches 2 (.aload_n 0, 0, 0, 0, []) := io_plain (by decide +kernel) rfl
theorem r_L_matches_3 : IOK WB AD SR FW TB md_L_matches 3 (.invokevirtual 54, 149, 11, 0, []) := io_virt (by decide +kernel) tb_X10_matches (wb_5 188 rfl rfl) in_X10_matches se_X10_matches ⟨_, rfl, rfl⟩ pr_X10_matches (by decide)
theorem r_L_matches_11 : IOK WB AD SR FW TB md_L_matches 11 (.astore_n 2, 0, 0, 0, []) := io_plain (by decide +kernel) rfl
theorem r_L_matches_12 : IOK WB AD SR FW TB md_L_matches 12 (.iconst 1, 0, 0, 0, []) := io_plain (by decide +kernel) rfl
theorem r_L_matches_13 : IOK WB AD SR FW TB md_L_matches 13 (.ireturn, 0, 0, 0, []) := io_plain (by decide +kernel) rfl
set_option maxRecDepth 100000 in
theorem ok_L_matches_0 : ∀ q ∈ tl_L_matches, IOK WB AD SR FW TB md_L_matches q.1 q.2 := List.forall_mem_cons.mpr ⟨r_L_matches_0, List.forall_mem_cons.mpr ⟨r_L_matches_1, List.forall_mem_cons.mpr ⟨r_L_matches_2, List.forall_mem_cons.mpr ⟨r_L_matches_3, List.forall_mem_cons.mpr ⟨r_L_matches_11, List.forall_mem_cons.mpr ⟨r_L_matches_12, List.forall_mem_cons.mpr ⟨r_L_matches_13, fun _ h => absurd h List.not_mem_nil⟩⟩⟩⟩⟩⟩⟩
set_option maxRecDepth 100000 in
theorem tq_L_matches_0 : tf_L_matches = tl_L_matches.map (fun q => (q.1, stepOf NPf md_L_matches q.2)) := rfl
theorem ro_L_matches : RowsOK (md_L_matches, tl_L_matches) tf_L_matches := ⟨tq_L_matches_0, ok_L_matches_0⟩
theorem r_L_matchesAnew_0 : IOK WB AD SR FW TB md_L_matchesAnew 0 (.aload_n 1, 0, 0, 0, []) := io_plain (by decide +kernel) rfl
theorem r_L_matchesAnew_1 : IOK WB AD SR FW TB md_L_matchesAnew 1 (.iconst 0, 0, 0, 0, []) := io_plain (by decide +kernel) rfl
theorem r_L_matchesAnew_2 : IOK WB AD SR FW TB md_L_matchesAnew 2 (.aload_n 0, 0, 0, 0, []) := io_plain (by decide +kernel) rfl
theorem r_L_matchesAnew_3 : IOK WB AD SR FW TB md_L_matchesAnew 3 (.invokevirtual 57, 150, 11, 0, []) := io_virt (by decide +kernel) tb_X10_matchesAnew (wb_5 202 rfl rfl) in_X10_matchesAnew se_X10_matchesAnew ⟨_, rfl, rfl⟩ pr_X10_matchesAnew (by decide)
theorem r_L_matchesAnew_11 : IOK WB AD SR FW TB md_L_matchesAnew 11 (.astore_n 2, 0, 0, 0, []) := io_plain (by decide +kernel) rfl
theorem r_L_matchesAnew_12 : IOK WB AD SR FW TB md_L_matchesAnew 12 (.iconst 1, 0, 0, 0, []) := io_plain (by decide +kernel) rfl
theorem r_L_matchesAnew_13 : IOK WB AD SR FW TB md_L_matchesAnew 13 (.ireturn, 0, 0, 0, []) := io_plain (by decide +kernel) rfl
set_option maxRecDepth 100000 in
theorem ok_L_matchesAnew_0 : ∀ q ∈ tl_L_matchesAnew, IOK WB AD SR FW TB md_L_matchesAnew q.1 q.2 := List.forall_mem_cons.mpr ⟨r_L_matchesAnew_0, List.forall_mem_cons.mpr ⟨r_L_matchesAnew_1, List.forall_mem_cons.mpr ⟨r_L_matchesAnew_2, List.forall_mem_cons.mpr ⟨r_L_matchesAnew_3, List.forall_mem_cons.mpr ⟨r_L_matchesAnew_11, List.forall_mem_cons.mpr ⟨r_L_matchesAnew_12, List.forall_mem_cons.mpr ⟨r_L_matchesAnew_13, fun _ h => absurd h List.not_mem_nil⟩⟩⟩⟩⟩⟩⟩
set_option maxRecDepth 100000 in
theorem tq_L_matchesAnew_0 : tf_L_matchesAnew = tl_L_matchesAnew.map (fun q => (q.1, stepOf NPf md_L_matchesAnew q.2)) := rfl
theorem ro_L_matchesAnew : RowsOK (md_L_matchesAnew, tl_L_matchesAnew) tf_L_matchesAnew := ⟨tq_L_matchesAnew_0, ok_L_matchesAnew_0⟩
theorem r_L_reduce_0 : IOK WB AD SR FW TB md_L_reduce 0 (.aload_n 1, 0, 0, 0, []) := io_plain (by decide +kernel) rfl
theorem r_L_reduce_1 : IOK WB AD SR FW TB md_L_reduce 1 (.iconst 0, 0, 0, 0, []) := io_plain (by decide +kernel) rfl
theorem r_L_reduce_2 : IOK WB AD SR FW TB md_L_reduce 2 (.aload_n 0, 0, 0, 0, []) := io_plain (by decide +kernel) rfl
theorem r_L_reduce_3 : IOK WB AD SR FW TB md_L_reduce 3 (.invokevirtual 67, 153, 11, 0, []) := io_virt (by decide +kernel) tb_X10_reduce (wb_6 3 rfl rfl) in_X10_reduce se_X10_reduce ⟨_, rfl, rfl⟩ pr_X10_reduce (by decide)
theorem r_L_reduce_11 : IOK WB AD SR FW TB md_L_reduce 11 (.astore_n 2, 0, 0, 0, []) := io_plain (by decide +kernel) rfl
theorem r_L_reduce_12 : IOK WB AD SR FW TB md_L_reduce 12 (.iconst 1, 0, 0, 0, []) := io_plain (by decide +kernel) rfl
theorem r_L_reduce_13 : IOK WB AD SR FW TB md_L_reduce 13 (.ireturn, 0, 0, 0, []) := io_plain (by decide +kernel) rfl
set_option maxRecDepth 100000 in
theorem ok_L_reduce_0 : ∀ q ∈ tl_L_reduce, IOK WB AD SR FW TB md_L_reduce q.1 q.2 := List.forall_mem_cons.mpr ⟨r_L_reduce_0, List.forall_mem_cons.mpr ⟨r_L_reduce_1, List.forall_mem_cons.mpr ⟨r_L_reduce_2, List.forall_mem_cons.mpr ⟨r_L_reduce_3, List.forall_mem_cons.mpr ⟨r_L_reduce_11, List.forall_mem_cons.mpr ⟨r_L_reduce_12, List.forall_mem_cons.mpr ⟨r_L_reduce_13, fun _ h => absurd h List.not_mem_nil⟩⟩⟩⟩⟩⟩⟩
set_option maxRecDepth 100000 in
theorem tq_L_reduce_0 : tf_L_reduce = tl_L_reduce.map (fun q => (q.1, stepOf NPf md_L_reduce q.2)) := rfl
theorem ro_L_reduce : RowsOK (md_L_reduce, tl_L_reduce) tf_L_reduce := ⟨tq_L_reduce_0, ok_L_reduce_0⟩
theorem r_L_fitting_0 : IOK WB AD SR FW TB md_L_fitting 0 (.aload_n 1, 0, 0, 0, []) := io_plain (by decide +kernel) rfl
theorem r_L_fitting_1 : IOK WB AD SR FW TB md_L_fitting 1 (.iconst 0, 0, 0, 0, []) := io_plain (by decide +kernel) rfl
theorem r_L_fitting_2 : IOK WB AD SR FW TB md_L_fitting 2 (.aload_n 0, 0, 0, 0, []) := io_plain (by decide +kernel) rfl
theorem r_L_fitting_3 : IOK WB AD SR FW TB md_L_fitting 3 (.invokevirtual 70, 154, 11, 0, []) := io_virt (by decide +kernel) tb_X10_fitting (wb_6 11 rfl rfl) in_X10_fitting se_X10_fitting ⟨_, rfl, rfl⟩ pr_X10_fitting (by decide)
theorem r_L_fitting_11 : IOK WB AD SR FW TB md_L_fitting 11 (.astore_n 2, 0, 0, 0, []) := io_plain (by decide +kernel) rfl
theorem r_L_fitting_12 : IOK WB AD SR FW TB md_L_fitting 12 (.iconst 1, 0, 0, 0, []) := io_plain (by decide +kernel) rfl
theorem r_L_fitting_13 : IOK WB AD SR FW TB md_L_fitting 13 (.ireturn, 0, 0, 0, []) := io_plain (by decide +kernel) rfl
set_option maxRecDepth 100000 in
theorem ok_L_fitting_0 : ∀ q ∈ tl_L_fitting, IOK WB AD SR FW TB md_L_fitting q.1 q.2 := List.forall_mem_cons.mpr ⟨r_L_fitting_0, List.forall_mem_cons.mpr ⟨r_L_fitting_1, List.forall_mem_cons.mpr ⟨r_L_fitting_2, List.forall_mem_cons.mpr ⟨r_L_fitting_3, List.forall_mem_cons.mpr ⟨r_L_fitting_11, List.forall_mem_cons.mpr ⟨r_L_fitting_12, List.forall_mem_cons.mpr ⟨r_L_fitting_13, fun _ h => absurd h List.not_mem_nil⟩⟩⟩⟩⟩⟩⟩
set_option maxRecDepth 100000 in
theorem tq_L_fitting_0 : tf_L_fitting = tl_L_fitting.map (fun q => (q.1, stepOf NPf md_L_fitting q.2)) := rfl
theorem ro_L_fitting : RowsOK (md_L_fitting, tl_L_fitting) tf_L_fitting := ⟨tq_L_fitting_0, ok_L_fitting_0⟩
theorem r_L_matching_0 : IOK WB AD SR FW TB md_L_matching 0 (.aload_n 1, 0, 0, 0, []) := io_plain (by decide +kernel) rfl
theorem r_L_matching_1 : IOK WB AD SR FW TB md_L_matching 1 (.iconst 0, 0, 0, 0, []) := io_plain (by decide +kernel) rfl
theorem r_L_matching_2 : IOK WB AD SR FW TB md_L_matching 2 (.aload_n 0, 0, 0, 0, []) := io_plain (by decide +kernel) rfl
theorem r_L_matching_3 : IOK WB AD SR FW TB md_L_matching 3 (.invokevirtual 73, 155, 11, 0, []) := io_virt (by decide +kernel) tb_X10_matching (wb_6 19 rfl rfl) in_X10_matching se_X10_matching ⟨_, rfl, rfl⟩ pr_X10_matching (by decide)
theorem r_L_matching_11 : IOK WB AD SR FW TB md_L_matching 11 (.astore_n 2, 0, 0, 0, []) := io_plain (by decide +kernel) rfl
theorem r_L_matching_12 : IOK WB AD SR FW TB md_L_matching 12 (.iconst 1, 0, 0, 0, []) := io_plain (by decide +kernel) rfl
theorem r_L_matching_13 : IOK WB AD SR FW TB md_L_matching 13 (.ireturn, 0, 0, 0, []) := io_plain (by decide +kernel) rfl
set_option maxRecDepth 100000 in
theorem ok_L_matching_0 : ∀ q ∈ tl_L_matching, IOK WB AD SR FW TB md_L_matching q.1 q.2 := List.forall_mem_cons.mpr ⟨r_L_matching_0, List.forall_mem_cons.mpr ⟨r_L_matching_1, List.forall_mem_cons.mpr ⟨r_L_matching_2, List.forall_mem_cons.mpr ⟨r_L_matching_3, List.forall_mem_cons.mpr ⟨r_L_matching_11, List.forall_mem_cons.mpr ⟨r_L_matching_12, List.forall_mem_cons.mpr ⟨r_L_matching_13, fun _ h => absurd h List.not_mem_nil⟩⟩⟩⟩⟩⟩⟩
set_option maxRecDepth 100000 in
theorem tq_L_matching_0 : tf_L_matching = tl_L_matching.map (fun q => (q.1, stepOf NPf md_L_matching q.2)) := rfl
theorem ro_L_matching : RowsOK (md_L_matching, tl_L_matching) tf_L_matching := ⟨tq_L_matching_0, ok_L_matching_0⟩
theorem r_L_search_0 : IOK WB AD SR FW TB md_L_search 0 (.aload_n 1, 0, 0, 0, []) := io_plain (by decide +kernel) rfl
theorem r_L_search_1 : IOK WB AD SR FW TB md_L_search 1 (.iconst 0, 0, 0, 0, []) := io_plain (by decide +kernel) rfl
theorem r_L_search_2 : IOK WB AD SR FW TB md_L_search 2 (.aload_n 0, 0, 0, 0, []) := io_plain (by decide +kernel) rfl
theorem r_L_search_3 : IOK WB AD SR FW TB md_L_search 3 (.invokevirtual 76, 156, 11, 0, []) := io_virt (by decide +kernel) tb_X10_search (wb_6 26 rfl rfl) in_X10_search se_X10_search ⟨_, rfl, rfl⟩ pr_X10_search (by decide)
theorem r_L_search_11 : IOK WB AD SR FW TB md_L_search 11 (.astore_n 2, 0, 0, 0, []) := io_plain (by decide +kernel) rfl
theorem r_L_search_12 : IOK WB AD SR FW TB md_L_search 12 (.iconst 1, 0, 0, 0, []) := io_plain (by decide +kernel) rfl
theorem r_L_search_13 : IOK WB AD SR FW TB md_L_search 13 (.ireturn, 0, 0, 0, []) := io_plain (by decide +kernel) rfl
set_option maxRecDepth 100000 in
theorem ok_L_search_0 : ∀ q ∈ tl_L_search, IOK WB AD SR FW TB md_L_search q.1 q.2 := List.forall_mem_cons.mpr ⟨r_L_search_0, List.forall_mem_cons.mpr ⟨r_L_search_1, List.forall_mem_cons.mpr ⟨r_L_search_2, List.forall_mem_cons.mpr ⟨r_L_search_3, List.forall_mem_cons.mpr ⟨r_L_search_11, List.forall_mem_cons.mpr ⟨r_L_search_12, List.forall_mem_cons.mpr ⟨r_L_search_13, fun _ h => absurd h List.not_mem_nil⟩⟩⟩⟩⟩⟩⟩
set_option maxRecDepth 100000 in
theorem tq_L_search_0 : tf_L_search = tl_L_search.map (fun q => (q.1, stepOf NPf md_L_search q.2)) := rfl
theorem ro_L_search : RowsOK (md_L_search, tl_L_search) tf_L_search := ⟨tq_L_search_0, ok_L_search_0⟩
theorem r_L_test_0 : IOK WB AD SR FW TB md_L_test 0 (.aload_n 1, 0, 0, 0, []) := io_plain (by decide +kernel) rfl
theorem r_L_test_1 : IOK WB AD SR FW TB md_L_test 1 (.iconst 0, 0, 0, 0, []) := io_plain (by decide +kernel) rfl
theorem r_L_test_2 : IOK WB AD SR FW TB md_L_test 2 (.aload_n 0, 0, 0, 0, []) := io_plain (by decide +kernel) rfl
theorem r_L_test_3 : IOK WB AD SR FW TB md_L_test 3 (.invokevirtual 98, 159, 11, 0, []) := io_virt (by decide +kernel) tb_X10_test (wb_6 147 rfl rfl) in_X10_test se_X10_test ⟨_, rfl, rfl⟩ pr_X10_test (by decide)
theorem r_L_test_11 : IOK WB AD SR FW TB md_L_test 11 (.astore_n 2, 0, 0, 0, []) := io_plain (by decide +kernel) rfl
theorem r_L_test_12 : IOK WB AD SR FW TB md_L_test 12 (.iconst 1, 0, 0, 0, []) := io_plain (by decide +kernel) rfl
theorem r_L_test_13 : IOK WB AD SR FW TB md_L_test 13 (.ireturn, 0, 0, 0, []) := io_plain (by decide +kernel) rfl
set_option maxRecDepth 100000 in
theorem ok_L_test_0 : ∀ q ∈ tl_L_test, IOK WB AD SR FW TB md_L_test q.1 q.2 := List.forall_mem_cons.mpr ⟨r_L_test_0, List.forall_mem_cons.mpr ⟨r_L_test_1, List.forall_mem_cons.mpr ⟨r_L_test_2, List.forall_mem_cons.mpr ⟨r_L_test_3, List.forall_mem_cons.mpr ⟨r_L_test_11, List.forall_mem_cons.mpr ⟨r_L_test_12, List.forall_mem_cons.mpr ⟨r_L_test_13, fun _ h => absurd h List.not_mem_nil⟩⟩⟩⟩⟩⟩⟩
set_option maxRecDepth 100000 in
theorem tq_L_test_0 : tf_L_test = tl_L_test.map (fun q => (q.1, stepOf NPf md_L_test q.2)) := rfl
theorem ro_L_test : RowsOK (md_L_test, tl_L_test) tf_L_test := ⟨tq_L_test_0, ok_L_test_0⟩
theorem r_L_many_0 : IOK WB AD SR FW TB md_L_many 0 (.aload_n 1, 0, 0, 0, []) := io_plain (by decide +kernel) rfl
theorem r_L_many_1 : IOK WB AD SR FW TB md_L_many 1 (.iconst 0, 0, 0, 0, []) := io_plain (by decide +kernel) rfl
theorem r_L_many_2 : IOK WB AD SR FW TB md_L_many 2 (.aload_n 0, 0, 0, 0, []) := io_plain (by decide +kernel) rfl
theorem r_L_many_3 : IOK WB AD SR FW TB md_L_many 3 (.invokevirtual 105, 144, 11, 0, []) := io_virt (by decide +kernel) tb_X10_many (wb_6 183 rfl rfl) in_X10_many se_X10_many ⟨_, rfl, rfl⟩ pr_X10_many (by decide)
theorem r_L_many_11 : IOK WB AD SR FW TB md_L_many 11 (.astore_n 2, 0, 0, 0, []) := io_plain (by decide +kernel) rfl
theorem r_L_many_12 : IOK WB AD SR FW TB md_L_many 12 (.iconst 1, 0, 0, 0, []) := io_plain (by decide +kernel) rfl
theorem r_L_many_13 : IOK WB AD SR FW TB md_L_many 13 (.ireturn, 0, 0, 0, []) := io_plain (by decide +kernel) rfl
set_option maxRecDepth 100000 in
theorem ok_L_many_0 : ∀ q ∈ tl_L_many, IOK WB AD SR FW TB md_L_many q.1 q.2 := List.forall_mem_cons.mpr ⟨r_L_many_0, List.forall_mem_cons.mpr ⟨r_L_many_1, List.forall_mem_cons.mpr ⟨r_L_many_2, List.forall_mem_cons.mpr ⟨r_L_many_3, List.forall_mem_cons.mpr ⟨r_L_many_11, List.forall_mem_cons.mpr ⟨r_L_many_12, List.forall_mem_cons.mpr ⟨r_L_many_13, fun _ h => absurd h List.not_mem_nil⟩⟩⟩⟩⟩⟩⟩
set_option maxRecDepth 100000 in
theorem tq_L_many_0 : tf_L_many = tl_L_many.map (fun q => (q.1, stepOf NPf md_L_many q.2)) := rfl
theorem ro_L_many : RowsOK (md_L_many, tl_L_many) tf_L_many := ⟨tq_L_many_0, ok_L_many_0⟩
theorem r_L_run_0 : IOK WB AD SR FW TB md_L_run 0 (.aload_n 1, 0, 0, 0, []) := io_plain (by decide +kernel) rfl
theorem r_L_run_1 : IOK WB AD SR FW TB md_L_run 1 (.iconst 0, 0, 0, 0, []) := io_plain (by decide +kernel) rfl
theorem r_L_run_2 : IOK WB AD SR FW TB md_L_run 2 (.aload_n 0, 0, 0, 0, []) := io_plain (by decide +kernel) rfl
theorem r_L_run_3 : IOK WB AD SR FW TB md_L_run 3 (.invokevirtual 108, 145, 11, 0, []) := io_virt (by decide +kernel) tb_X10_run (wb_6 196 rfl rfl) in_X10_run se_X10_run ⟨_, rfl, rfl⟩ pr_X10_run (by decide)
theorem r_L_run_11 : IOK WB AD SR FW TB md_L_run 11 (.astore_n 2, 0, 0, 0, []) := io_plain (by decide +kernel) rfl
theorem r_L_run_12 : IOK WB AD SR FW TB md_L_run 12 (.iconst 1, 0, 0, 0, []) := io_plain (by decide +kernel) rfl
theorem r_L_run_13 : IOK WB AD SR FW TB md_L_run 13 (.ireturn, 0, 0, 0, []) := io_plain (by decide +kernel) rfl
set_option maxRecDepth 100000 in
theorem ok_L_run_0 : ∀ q ∈ tl_L_run, IOK WB AD SR FW TB md_L_run q.1 q.2 := List.forall_mem_cons.mpr ⟨r_L_run_0, List.forall_mem_cons.mpr ⟨r_L_run_1, List.forall_mem_cons.mpr ⟨r_L_run_2, List.forall_mem_cons.mpr ⟨r_L_run_3, List.forall_mem_cons.mpr ⟨r_L_run_11, List.forall_mem_cons.mpr ⟨r_L_run_12, List.forall_mem_cons.mpr ⟨r_L_run_13, fun _ h => absurd h List.not_mem_nil⟩⟩⟩⟩⟩⟩⟩
set_option maxRecDepth 100000 in
theorem tq_L_run_0 : tf_L_run = tl_L_run.map (fun q => (q.1, stepOf NPf md_L_run q.2)) := rfl
theorem ro_L_run : RowsOK (md_L_run, tl_L_run) tf_L_run := ⟨tq_L_run_0, ok_L_run_0⟩
theorem r_X10_many_0 : IOK WB AD SR FW TB md_X10_many 0 (.aload_n 0, 0, 0, 0, []) := io_plain (by decide +kernel) rfl
theorem r_X10_many_1 : IOK WB AD SR FW TB md_X10_many 1 (.getfield 67, 11, 6, 2, []) := io_get (by decide +kernel) fo_RX10_67
theorem r_X10_many_4 : IOK WB AD SR FW TB md_X10_many 4 (.getfield 320, 6, 2, 0, []) := io_get (by decide +kernel) fo_RX10_320
theorem r_X10_many_7 : IOK WB AD SR FW TB md_X10_many 7 (.iconst 1, 0, 0, 0, []) := io_plain (by decide +kernel) rfl
theorem r_X10_many_8 : IOK WB AD SR FW TB md_X10_many 8 (.if_icmp .lt 15, 0, 0, 0, []) := io_plain (by decide +kernel) rfl
set_option maxRecDepth 100000 in
theorem r_X10_many_23 : IOK WB AD SR FW TB md_X10_many 23 (.new 82, 100, 342, 86, [1]) := io_thx 0 rfl (thk_mk RX10 rfl 82 342 86 0 "there is no strategy, or it has too many parts" true (List.mem_of_getElem? (i := 20) rfl) (by decide) (by decide +kernel) (by decide +kernel) ⟨by decide +kernel, by decide +kernel, by decide +kernel⟩ (wb_4 188 rfl rfl) (wb_1 21 rfl rfl) at_RX10_86_0 rfl) (by decide +kernel)
theorem r_X10_many_26 : IOK WB AD SR FW TB md_X10_many 26 (.dup, 0, 0, 0, []) := io_plain (by decide +kernel) rfl
set_option maxRecDepth 100000 in
theorem ok_X10_many_0 : ∀ q ∈ tl_X10_many, IOK WB AD SR FW TB md_X10_many q.1 q.2 := List.forall_mem_cons.mpr ⟨r_X10_many_0, List.forall_mem_cons.mpr ⟨r_X10_many_1, List.forall_mem_cons.mpr ⟨r_X10_many_4, List.forall_mem_cons.mpr ⟨r_X10_many_7, List.forall_mem_cons.mpr ⟨r_X10_many_8, List.forall_mem_cons.mpr ⟨r_X10_many_23, List.forall_mem_cons.mpr ⟨r_X10_many_26, fun _ h => absurd h List.not_mem_nil⟩⟩⟩⟩⟩⟩⟩
set_option maxRecDepth 100000 in
theorem tq_X10_many_0 : tf_X10_many = tl_X10_many.map (fun q => (q.1, stepOf NPf md_X10_many q.2)) := rfl
theorem ro_X10_many : RowsOK (md_X10_many, tl_X10_many) tf_X10_many := ⟨tq_X10_many_0, ok_X10_many_0⟩
theorem r_X10_run_0 : IOK WB AD SR FW TB md_X10_run 0 (.aload_n 0, 0, 0, 0, []) := io_plain (by decide +kernel) rfl
theorem r_X10_run_1 : IOK WB AD SR FW TB md_X10_run 1 (.getfield 67, 11, 6, 2, []) := io_get (by decide +kernel) fo_RX10_67
theorem r_X10_run_4 : IOK WB AD SR FW TB md_X10_run 4 (.getfield 320, 6, 2, 0, []) := io_get (by decide +kernel) fo_RX10_320
theorem r_X10_run_7 : IOK WB AD SR FW TB md_X10_run 7 (.iconst 1, 0, 0, 0, []) := io_plain (by decide +kernel) rfl
theorem r_X10_run_8 : IOK WB AD SR FW TB md_X10_run 8 (.if_icmp .lt 10, 0, 0, 0, []) := io_plain (by decide +kernel) rfl
set_option maxRecDepth 100000 in
theorem r_X10_run_18 : IOK WB AD SR FW TB md_X10_run 18 (.new 82, 100, 347, 86, [1]) := io_thx 0 rfl (thk_mk RX10 rfl 82 347 86 0 "there is no strategy, or no top" true (List.mem_of_getElem? (i := 21) rfl) (by decide) (by decide +kernel) (by decide +kernel) ⟨by decide +kernel, by decide +kernel, by decide +kernel⟩ (wb_4 188 rfl rfl) (wb_1 21 rfl rfl) at_RX10_86_0 rfl) (by decide +kernel)
theorem r_X10_run_21 : IOK WB AD SR FW TB md_X10_run 21 (.dup, 0, 0, 0, []) := io_plain (by decide +kernel) rfl
set_option maxRecDepth 100000 in
theorem ok_X10_run_0 : ∀ q ∈ tl_X10_run, IOK WB AD SR FW TB md_X10_run q.1 q.2 := List.forall_mem_cons.mpr ⟨r_X10_run_0, List.forall_mem_cons.mpr ⟨r_X10_run_1, List.forall_mem_cons.mpr ⟨r_X10_run_4, List.forall_mem_cons.mpr ⟨r_X10_run_7, List.forall_mem_cons.mpr ⟨r_X10_run_8, List.forall_mem_cons.mpr ⟨r_X10_run_18, List.forall_mem_cons.mpr ⟨r_X10_run_21, fun _ h => absurd h List.not_mem_nil⟩⟩⟩⟩⟩⟩⟩
set_option maxRecDepth 100000 in
theorem tq_X10_run_0 : tf_X10_run = tl_X10_run.map (fun q => (q.1, stepOf NPf md_X10_run q.2)) := rfl
theorem ro_X10_run : RowsOK (md_X10_run, tl_X10_run) tf_X10_run := ⟨tq_X10_run_0, ok_X10_run_0⟩
theorem r_X17_isCut_0 : IOK WB AD SR FW TB md_X17_isCut 0 (.aload_n 0, 0, 0, 0, []) := io_plain (by decide +kernel) rfl
theorem r_X17_isCut_1 : IOK WB AD SR FW TB md_X17_isCut 1 (.iconst 0, 0, 0, 0, []) := io_plain (by decide +kernel) rfl
theorem r_X17_isCut_2 : IOK WB AD SR FW TB md_X17_isCut 2 (.putfield 114, 18, 0, 0, []) := io_put (by decide +kernel) fo_RX17_114 po_RX17_0_18_0_0
theorem r_X17_isCut_5 : IOK WB AD SR FW TB md_X17_isCut 5 (.aload_n 0, 0, 0, 0, []) := io_plain (by decide +kernel) rfl
theorem r_X17_isCut_6 : IOK WB AD SR FW TB md_X17_isCut 6 (.getfield 357, 18, 19, 1, []) := io_get (by decide +kernel) fo_RX17_357
theorem r_X17_isCut_9 : IOK WB AD SR FW TB md_X17_isCut 9 (.ireturn, 0, 0, 0, []) := io_plain (by decide +kernel) rfl
set_option maxRecDepth 100000 in
theorem ok_X17_isCut_0 : ∀ q ∈ tl_X17_isCut, IOK WB AD SR FW TB md_X17_isCut q.1 q.2 := List.forall_mem_cons.mpr ⟨r_X17_isCut_0, List.forall_mem_cons.mpr ⟨r_X17_isCut_1, List.forall_mem_cons.mpr ⟨r_X17_isCut_2, List.forall_mem_cons.mpr ⟨r_X17_isCut_5, List.forall_mem_cons.mpr ⟨r_X17_isCut_6, List.forall_mem_cons.mpr ⟨r_X17_isCut_9, fun _ h => absurd h List.not_mem_nil⟩⟩⟩⟩⟩⟩
set_option maxRecDepth 100000 in
theorem tq_X17_isCut_0 : tf_X17_isCut = tl_X17_isCut.map (fun q => (q.1, stepOf NPf md_X17_isCut q.2)) := rfl
theorem ro_X17_isCut : RowsOK (md_X17_isCut, tl_X17_isCut) tf_X17_isCut := ⟨tq_X17_isCut_0, ok_X17_isCut_0⟩
theorem r_X10_sortOf_0 : IOK WB AD SR FW TB md_X10_sortOf 0 (.aload_n 0, 0, 0, 0, []) := io_plain (by decide +kernel) rfl
theorem r_X10_sortOf_1 : IOK WB AD SR FW TB md_X10_sortOf 1 (.getfield 160, 11, 8, 0, []) := io_get (by decide +kernel) fo_RX10_160
theorem r_X10_sortOf_4 : IOK WB AD SR FW TB md_X10_sortOf 4 (.ifCond .ne 13, 0, 0, 0, []) := io_plain (by decide +kernel) rfl
set_option maxRecDepth 100000 in
theorem r_X10_sortOf_7 : IOK WB AD SR FW TB md_X10_sortOf 7 (.new 82, 100, 201, 86, []) := io_thx 0 rfl (thk_mk RX10 rfl 82 201 86 0 "there is no top" false (List.mem_of_getElem? (i := 22) rfl) (by decide) (by decide +kernel) (by decide +kernel) ⟨by decide +kernel, by decide +kernel, by decide +kernel⟩ (wb_4 188 rfl rfl) (wb_1 21 rfl rfl) at_RX10_86_0 rfl) (by decide +kernel)
theorem r_X10_sortOf_10 : IOK WB AD SR FW TB md_X10_sortOf 10 (.dup, 0, 0, 0, []) := io_plain (by decide +kernel) rfl
theorem r_X10_sortOf_17 : IOK WB AD SR FW TB md_X10_sortOf 17 (.aload_n 0, 0, 0, 0, []) := io_plain (by decide +kernel) rfl
set_option maxRecDepth 100000 in
theorem ok_X10_sortOf_0 : ∀ q ∈ tl_X10_sortOf, IOK WB AD SR FW TB md_X10_sortOf q.1 q.2 := List.forall_mem_cons.mpr ⟨r_X10_sortOf_0, List.forall_mem_cons.mpr ⟨r_X10_sortOf_1, List.forall_mem_cons.mpr ⟨r_X10_sortOf_4, List.forall_mem_cons.mpr ⟨r_X10_sortOf_7, List.forall_mem_cons.mpr ⟨r_X10_sortOf_10, List.forall_mem_cons.mpr ⟨r_X10_sortOf_17, fun _ h => absurd h List.not_mem_nil⟩⟩⟩⟩⟩⟩
set_option maxRecDepth 100000 in
theorem tq_X10_sortOf_0 : tf_X10_sortOf = tl_X10_sortOf.map (fun q => (q.1, stepOf NPf md_X10_sortOf q.2)) := rfl
theorem ro_X10_sortOf : RowsOK (md_X10_sortOf, tl_X10_sortOf) tf_X10_sortOf := ⟨tq_X10_sortOf_0, ok_X10_sortOf_0⟩
theorem r_X10_code_0 : IOK WB AD SR FW TB md_X10_code 0 (.aload_n 0, 0, 0, 0, []) := io_plain (by decide +kernel) rfl
theorem r_X10_code_1 : IOK WB AD SR FW TB md_X10_code 1 (.getfield 160, 11, 8, 0, []) := io_get (by decide +kernel) fo_RX10_160
theorem r_X10_code_4 : IOK WB AD SR FW TB md_X10_code 4 (.ifCond .ne 13, 0, 0, 0, []) := io_plain (by decide +kernel) rfl
set_option maxRecDepth 100000 in
theorem r_X10_code_7 : IOK WB AD SR FW TB md_X10_code 7 (.new 82, 100, 201, 86, []) := io_thx 0 rfl (thk_mk RX10 rfl 82 201 86 0 "there is no top" false (List.mem_of_getElem? (i := 22) rfl) (by decide) (by decide +kernel) (by decide +kernel) ⟨by decide +kernel, by decide +kernel, by decide +kernel⟩ (wb_4 188 rfl rfl) (wb_1 21 rfl rfl) at_RX10_86_0 rfl) (by decide +kernel)
theorem r_X10_code_10 : IOK WB AD SR FW TB md_X10_code 10 (.dup, 0, 0, 0, []) := io_plain (by decide +kernel) rfl
theorem r_X10_code_17 : IOK WB AD SR FW TB md_X10_code 17 (.aload_n 0, 0, 0, 0, []) := io_plain (by decide +kernel) rfl
set_option maxRecDepth 100000 in
theorem ok_X10_code_0 : ∀ q ∈ tl_X10_code, IOK WB AD SR FW TB md_X10_code q.1 q.2 := List.forall_mem_cons.mpr ⟨r_X10_code_0, List.forall_mem_cons.mpr ⟨r_X10_code_1, List.forall_mem_cons.mpr ⟨r_X10_code_4, List.forall_mem_cons.mpr ⟨r_X10_code_7, List.forall_mem_cons.mpr ⟨r_X10_code_10, List.forall_mem_cons.mpr ⟨r_X10_code_17, fun _ h => absurd h List.not_mem_nil⟩⟩⟩⟩⟩⟩
set_option maxRecDepth 100000 in
theorem tq_X10_code_0 : tf_X10_code = tl_X10_code.map (fun q => (q.1, stepOf NPf md_X10_code q.2)) := rfl
theorem ro_X10_code : RowsOK (md_X10_code, tl_X10_code) tf_X10_code := ⟨tq_X10_code_0, ok_X10_code_0⟩
theorem r_X10_matches_0 : IOK WB AD SR FW TB md_X10_matches 0 (.aload_n 0, 0, 0, 0, []) := io_plain (by decide +kernel) rfl
theorem r_X10_matches_1 : IOK WB AD SR FW TB md_X10_matches 1 (.invokevirtual 221, 87, 11, 0, []) := io_virt (by decide +kernel) tb_X10_hasPatternAndSubject (wb_5 192 rfl rfl) in_X10_hasPatternAndSubject se_X10_hasPatternAndSubject ⟨_, rfl, rfl⟩ pr_X10_hasPatternAndSubject (by decide)
theorem r_X10_matches_4 : IOK WB AD SR FW TB md_X10_matches 4 (.ifCond .ne 13, 0, 0, 0, []) := io_plain (by decide +kernel) rfl
set_option maxRecDepth 100000 in
theorem r_X10_matches_7 : IOK WB AD SR FW TB md_X10_matches 7 (.new 82, 100, 224, 86, []) := io_thx 0 rfl (thk_mk RX10 rfl 82 224 86 0 "there are not two terms, or too many variables" false (List.mem_of_getElem? (i := 23) rfl) (by decide) (by decide +kernel) (by decide +kernel) ⟨by decide +kernel, by decide +kernel, by decide +kernel⟩ (wb_4 188 rfl rfl) (wb_1 21 rfl rfl) at_RX10_86_0 rfl) (by decide +kernel)
theorem r_X10_matches_10 : IOK WB AD SR FW TB md_X10_matches 10 (.dup, 0, 0, 0, []) := io_plain (by decide +kernel) rfl
theorem r_X10_matches_17 : IOK WB AD SR FW TB md_X10_matches 17 (.aload_n 0, 0, 0, 0, []) := io_plain (by decide +kernel) rfl
set_option maxRecDepth 100000 in
theorem ok_X10_matches_0 : ∀ q ∈ tl_X10_matches, IOK WB AD SR FW TB md_X10_matches q.1 q.2 := List.forall_mem_cons.mpr ⟨r_X10_matches_0, List.forall_mem_cons.mpr ⟨r_X10_matches_1, List.forall_mem_cons.mpr ⟨r_X10_matches_4, List.forall_mem_cons.mpr ⟨r_X10_matches_7, List.forall_mem_cons.mpr ⟨r_X10_matches_10, List.forall_mem_cons.mpr ⟨r_X10_matches_17, fun _ h => absurd h List.not_mem_nil⟩⟩⟩⟩⟩⟩
set_option maxRecDepth 100000 in
theorem tq_X10_matches_0 : tf_X10_matches = tl_X10_matches.map (fun q => (q.1, stepOf NPf md_X10_matches q.2)) := rfl
theorem ro_X10_matches : RowsOK (md_X10_matches, tl_X10_matches) tf_X10_matches := ⟨tq_X10_matches_0, ok_X10_matches_0⟩
theorem r_X10_matchesAnew_0 : IOK WB AD SR FW TB md_X10_matchesAnew 0 (.aload_n 0, 0, 0, 0, []) := io_plain (by decide +kernel) rfl
theorem r_X10_matchesAnew_1 : IOK WB AD SR FW TB md_X10_matchesAnew 1 (.invokevirtual 221, 87, 11, 0, []) := io_virt (by decide +kernel) tb_X10_hasPatternAndSubject (wb_5 192 rfl rfl) in_X10_hasPatternAndSubject se_X10_hasPatternAndSubject ⟨_, rfl, rfl⟩ pr_X10_hasPatternAndSubject (by decide)
theorem r_X10_matchesAnew_4 : IOK WB AD SR FW TB md_X10_matchesAnew 4 (.ifCond .ne 13, 0, 0, 0, []) := io_plain (by decide +kernel) rfl
set_option maxRecDepth 100000 in
theorem r_X10_matchesAnew_7 : IOK WB AD SR FW TB md_X10_matchesAnew 7 (.new 82, 100, 224, 86, []) := io_thx 0 rfl (thk_mk RX10 rfl 82 224 86 0 "there are not two terms, or too many variables" false (List.mem_of_getElem? (i := 23) rfl) (by decide) (by decide +kernel) (by decide +kernel) ⟨by decide +kernel, by decide +kernel, by decide +kernel⟩ (wb_4 188 rfl rfl) (wb_1 21 rfl rfl) at_RX10_86_0 rfl) (by decide +kernel)
theorem r_X10_matchesAnew_10 : IOK WB AD SR FW TB md_X10_matchesAnew 10 (.dup, 0, 0, 0, []) := io_plain (by decide +kernel) rfl
theorem r_X10_matchesAnew_17 : IOK WB AD SR FW TB md_X10_matchesAnew 17 (.aload_n 0, 0, 0, 0, []) := io_plain (by decide +kernel) rfl
set_option maxRecDepth 100000 in
theorem ok_X10_matchesAnew_0 : ∀ q ∈ tl_X10_matchesAnew, IOK WB AD SR FW TB md_X10_matchesAnew q.1 q.2 := List.forall_mem_cons.mpr ⟨r_X10_matchesAnew_0, List.forall_mem_cons.mpr ⟨r_X10_matchesAnew_1, List.forall_mem_cons.mpr ⟨r_X10_matchesAnew_4, List.forall_mem_cons.mpr ⟨r_X10_matchesAnew_7, List.forall_mem_cons.mpr ⟨r_X10_matchesAnew_10, List.forall_mem_cons.mpr ⟨r_X10_matchesAnew_17, fun _ h => absurd h List.not_mem_nil⟩⟩⟩⟩⟩⟩
set_option maxRecDepth 100000 in
theorem tq_X10_matchesAnew_0 : tf_X10_matchesAnew = tl_X10_matchesAnew.map (fun q => (q.1, stepOf NPf md_X10_matchesAnew q.2)) := rfl
theorem ro_X10_matchesAnew : RowsOK (md_X10_matchesAnew, tl_X10_matchesAnew) tf_X10_matchesAnew := ⟨tq_X10_matchesAnew_0, ok_X10_matchesAnew_0⟩
theorem r_X10_match_0 : IOK WB AD SR FW TB md_X10_match 0 (.aload_n 0, 0, 0, 0, []) := io_plain (by decide +kernel) rfl
theorem r_X10_match_1 : IOK WB AD SR FW TB md_X10_match 1 (.invokevirtual 221, 87, 11, 0, []) := io_virt (by decide +kernel) tb_X10_hasPatternAndSubject (wb_5 192 rfl rfl) in_X10_hasPatternAndSubject se_X10_hasPatternAndSubject ⟨_, rfl, rfl⟩ pr_X10_hasPatternAndSubject (by decide)
theorem r_X10_match_4 : IOK WB AD SR FW TB md_X10_match 4 (.ifCond .ne 13, 0, 0, 0, []) := io_plain (by decide +kernel) rfl
set_option maxRecDepth 100000 in
theorem r_X10_match_7 : IOK WB AD SR FW TB md_X10_match 7 (.new 82, 100, 224, 86, []) := io_thx 0 rfl (thk_mk RX10 rfl 82 224 86 0 "there are not two terms, or too many variables" false (List.mem_of_getElem? (i := 23) rfl) (by decide) (by decide +kernel) (by decide +kernel) ⟨by decide +kernel, by decide +kernel, by decide +kernel⟩ (wb_4 188 rfl rfl) (wb_1 21 rfl rfl) at_RX10_86_0 rfl) (by decide +kernel)
theorem r_X10_match_10 : IOK WB AD SR FW TB md_X10_match 10 (.dup, 0, 0, 0, []) := io_plain (by decide +kernel) rfl
theorem r_X10_match_17 : IOK WB AD SR FW TB md_X10_match 17 (.aload_n 0, 0, 0, 0, []) := io_plain (by decide +kernel) rfl
set_option maxRecDepth 100000 in
theorem ok_X10_match_0 : ∀ q ∈ tl_X10_match, IOK WB AD SR FW TB md_X10_match q.1 q.2 := List.forall_mem_cons.mpr ⟨r_X10_match_0, List.forall_mem_cons.mpr ⟨r_X10_match_1, List.forall_mem_cons.mpr ⟨r_X10_match_4, List.forall_mem_cons.mpr ⟨r_X10_match_7, List.forall_mem_cons.mpr ⟨r_X10_match_10, List.forall_mem_cons.mpr ⟨r_X10_match_17, fun _ h => absurd h List.not_mem_nil⟩⟩⟩⟩⟩⟩
set_option maxRecDepth 100000 in
theorem tq_X10_match_0 : tf_X10_match = tl_X10_match.map (fun q => (q.1, stepOf NPf md_X10_match q.2)) := rfl
theorem ro_X10_match : RowsOK (md_X10_match, tl_X10_match) tf_X10_match := ⟨tq_X10_match_0, ok_X10_match_0⟩
theorem r_X10_equations_0 : IOK WB AD SR FW TB md_X10_equations 0 (.aload_n 0, 0, 0, 0, []) := io_plain (by decide +kernel) rfl
theorem r_X10_equations_1 : IOK WB AD SR FW TB md_X10_equations 1 (.getfield 30, 11, 2, 2, []) := io_get (by decide +kernel) fo_RX10_30
theorem r_X10_equations_4 : IOK WB AD SR FW TB md_X10_equations 4 (.getfield 262, 3, 2, 0, []) := io_get (by decide +kernel) fo_RX10_262
theorem r_X10_equations_7 : IOK WB AD SR FW TB md_X10_equations 7 (.ireturn, 0, 0, 0, []) := io_plain (by decide +kernel) rfl
set_option maxRecDepth 100000 in
theorem ok_X10_equations_0 : ∀ q ∈ tl_X10_equations, IOK WB AD SR FW TB md_X10_equations q.1 q.2 := List.forall_mem_cons.mpr ⟨r_X10_equations_0, List.forall_mem_cons.mpr ⟨r_X10_equations_1, List.forall_mem_cons.mpr ⟨r_X10_equations_4, List.forall_mem_cons.mpr ⟨r_X10_equations_7, fun _ h => absurd h List.not_mem_nil⟩⟩⟩⟩
set_option maxRecDepth 100000 in
theorem tq_X10_equations_0 : tf_X10_equations = tl_X10_equations.map (fun q => (q.1, stepOf NPf md_X10_equations q.2)) := rfl
theorem ro_X10_equations : RowsOK (md_X10_equations, tl_X10_equations) tf_X10_equations := ⟨tq_X10_equations_0, ok_X10_equations_0⟩
theorem r_X10_reduce_0 : IOK WB AD SR FW TB md_X10_reduce 0 (.aload_n 0, 0, 0, 0, []) := io_plain (by decide +kernel) rfl
theorem r_X10_reduce_1 : IOK WB AD SR FW TB md_X10_reduce 1 (.getfield 160, 11, 8, 0, []) := io_get (by decide +kernel) fo_RX10_160
theorem r_X10_reduce_4 : IOK WB AD SR FW TB md_X10_reduce 4 (.ifCond .ne 13, 0, 0, 0, []) := io_plain (by decide +kernel) rfl
set_option maxRecDepth 100000 in
theorem r_X10_reduce_7 : IOK WB AD SR FW TB md_X10_reduce 7 (.new 82, 100, 201, 86, []) := io_thx 0 rfl (thk_mk RX10 rfl 82 201 86 0 "there is no top" false (List.mem_of_getElem? (i := 22) rfl) (by decide) (by decide +kernel) (by decide +kernel) ⟨by decide +kernel, by decide +kernel, by decide +kernel⟩ (wb_4 188 rfl rfl) (wb_1 21 rfl rfl) at_RX10_86_0 rfl) (by decide +kernel)
theorem r_X10_reduce_10 : IOK WB AD SR FW TB md_X10_reduce 10 (.dup, 0, 0, 0, []) := io_plain (by decide +kernel) rfl
theorem r_X10_reduce_17 : IOK WB AD SR FW TB md_X10_reduce 17 (.aload_n 0, 0, 0, 0, []) := io_plain (by decide +kernel) rfl
set_option maxRecDepth 100000 in
theorem ok_X10_reduce_0 : ∀ q ∈ tl_X10_reduce, IOK WB AD SR FW TB md_X10_reduce q.1 q.2 := List.forall_mem_cons.mpr ⟨r_X10_reduce_0, List.forall_mem_cons.mpr ⟨r_X10_reduce_1, List.forall_mem_cons.mpr ⟨r_X10_reduce_4, List.forall_mem_cons.mpr ⟨r_X10_reduce_7, List.forall_mem_cons.mpr ⟨r_X10_reduce_10, List.forall_mem_cons.mpr ⟨r_X10_reduce_17, fun _ h => absurd h List.not_mem_nil⟩⟩⟩⟩⟩⟩
set_option maxRecDepth 100000 in
theorem tq_X10_reduce_0 : tf_X10_reduce = tl_X10_reduce.map (fun q => (q.1, stepOf NPf md_X10_reduce q.2)) := rfl
theorem ro_X10_reduce : RowsOK (md_X10_reduce, tl_X10_reduce) tf_X10_reduce := ⟨tq_X10_reduce_0, ok_X10_reduce_0⟩
theorem r_X10_fitting_0 : IOK WB AD SR FW TB md_X10_fitting 0 (.aload_n 0, 0, 0, 0, []) := io_plain (by decide +kernel) rfl
theorem r_X10_fitting_1 : IOK WB AD SR FW TB md_X10_fitting 1 (.getfield 160, 11, 8, 0, []) := io_get (by decide +kernel) fo_RX10_160
theorem r_X10_fitting_4 : IOK WB AD SR FW TB md_X10_fitting 4 (.ifCond .ne 13, 0, 0, 0, []) := io_plain (by decide +kernel) rfl
set_option maxRecDepth 100000 in
theorem r_X10_fitting_7 : IOK WB AD SR FW TB md_X10_fitting 7 (.new 82, 100, 201, 86, []) := io_thx 0 rfl (thk_mk RX10 rfl 82 201 86 0 "there is no top" false (List.mem_of_getElem? (i := 22) rfl) (by decide) (by decide +kernel) (by decide +kernel) ⟨by decide +kernel, by decide +kernel, by decide +kernel⟩ (wb_4 188 rfl rfl) (wb_1 21 rfl rfl) at_RX10_86_0 rfl) (by decide +kernel)
theorem r_X10_fitting_10 : IOK WB AD SR FW TB md_X10_fitting 10 (.dup, 0, 0, 0, []) := io_plain (by decide +kernel) rfl
theorem r_X10_fitting_17 : IOK WB AD SR FW TB md_X10_fitting 17 (.iconst 0, 0, 0, 0, []) := io_plain (by decide +kernel) rfl
set_option maxRecDepth 100000 in
theorem ok_X10_fitting_0 : ∀ q ∈ tl_X10_fitting, IOK WB AD SR FW TB md_X10_fitting q.1 q.2 := List.forall_mem_cons.mpr ⟨r_X10_fitting_0, List.forall_mem_cons.mpr ⟨r_X10_fitting_1, List.forall_mem_cons.mpr ⟨r_X10_fitting_4, List.forall_mem_cons.mpr ⟨r_X10_fitting_7, List.forall_mem_cons.mpr ⟨r_X10_fitting_10, List.forall_mem_cons.mpr ⟨r_X10_fitting_17, fun _ h => absurd h List.not_mem_nil⟩⟩⟩⟩⟩⟩
set_option maxRecDepth 100000 in
theorem tq_X10_fitting_0 : tf_X10_fitting = tl_X10_fitting.map (fun q => (q.1, stepOf NPf md_X10_fitting q.2)) := rfl
theorem ro_X10_fitting : RowsOK (md_X10_fitting, tl_X10_fitting) tf_X10_fitting := ⟨tq_X10_fitting_0, ok_X10_fitting_0⟩
theorem r_X10_matching_0 : IOK WB AD SR FW TB md_X10_matching 0 (.aload_n 0, 0, 0, 0, []) := io_plain (by decide +kernel) rfl
theorem r_X10_matching_1 : IOK WB AD SR FW TB md_X10_matching 1 (.getfield 160, 11, 8, 0, []) := io_get (by decide +kernel) fo_RX10_160
theorem r_X10_matching_4 : IOK WB AD SR FW TB md_X10_matching 4 (.ifCond .ne 13, 0, 0, 0, []) := io_plain (by decide +kernel) rfl
set_option maxRecDepth 100000 in
theorem r_X10_matching_7 : IOK WB AD SR FW TB md_X10_matching 7 (.new 82, 100, 201, 86, []) := io_thx 0 rfl (thk_mk RX10 rfl 82 201 86 0 "there is no top" false (List.mem_of_getElem? (i := 22) rfl) (by decide) (by decide +kernel) (by decide +kernel) ⟨by decide +kernel, by decide +kernel, by decide +kernel⟩ (wb_4 188 rfl rfl) (wb_1 21 rfl rfl) at_RX10_86_0 rfl) (by decide +kernel)
theorem r_X10_matching_10 : IOK WB AD SR FW TB md_X10_matching 10 (.dup, 0, 0, 0, []) := io_plain (by decide +kernel) rfl
theorem r_X10_matching_17 : IOK WB AD SR FW TB md_X10_matching 17 (.iconst 0, 0, 0, 0, []) := io_plain (by decide +kernel) rfl
set_option maxRecDepth 100000 in
theorem ok_X10_matching_0 : ∀ q ∈ tl_X10_matching, IOK WB AD SR FW TB md_X10_matching q.1 q.2 := List.forall_mem_cons.mpr ⟨r_X10_matching_0, List.forall_mem_cons.mpr ⟨r_X10_matching_1, List.forall_mem_cons.mpr ⟨r_X10_matching_4, List.forall_mem_cons.mpr ⟨r_X10_matching_7, List.forall_mem_cons.mpr ⟨r_X10_matching_10, List.forall_mem_cons.mpr ⟨r_X10_matching_17, fun _ h => absurd h List.not_mem_nil⟩⟩⟩⟩⟩⟩
set_option maxRecDepth 100000 in
theorem tq_X10_matching_0 : tf_X10_matching = tl_X10_matching.map (fun q => (q.1, stepOf NPf md_X10_matching q.2)) := rfl
theorem ro_X10_matching : RowsOK (md_X10_matching, tl_X10_matching) tf_X10_matching := ⟨tq_X10_matching_0, ok_X10_matching_0⟩
theorem r_X10_search_0 : IOK WB AD SR FW TB md_X10_search 0 (.aload_n 0, 0, 0, 0, []) := io_plain (by decide +kernel) rfl
theorem r_X10_search_1 : IOK WB AD SR FW TB md_X10_search 1 (.getfield 160, 11, 8, 0, []) := io_get (by decide +kernel) fo_RX10_160
theorem r_X10_search_4 : IOK WB AD SR FW TB md_X10_search 4 (.ifCond .ne 13, 0, 0, 0, []) := io_plain (by decide +kernel) rfl
set_option maxRecDepth 100000 in
theorem r_X10_search_7 : IOK WB AD SR FW TB md_X10_search 7 (.new 82, 100, 201, 86, []) := io_thx 0 rfl (thk_mk RX10 rfl 82 201 86 0 "there is no top" false (List.mem_of_getElem? (i := 22) rfl) (by decide) (by decide +kernel) (by decide +kernel) ⟨by decide +kernel, by decide +kernel, by decide +kernel⟩ (wb_4 188 rfl rfl) (wb_1 21 rfl rfl) at_RX10_86_0 rfl) (by decide +kernel)
theorem r_X10_search_10 : IOK WB AD SR FW TB md_X10_search 10 (.dup, 0, 0, 0, []) := io_plain (by decide +kernel) rfl
theorem r_X10_search_17 : IOK WB AD SR FW TB md_X10_search 17 (.aload_n 0, 0, 0, 0, []) := io_plain (by decide +kernel) rfl
set_option maxRecDepth 100000 in
theorem ok_X10_search_0 : ∀ q ∈ tl_X10_search, IOK WB AD SR FW TB md_X10_search q.1 q.2 := List.forall_mem_cons.mpr ⟨r_X10_search_0, List.forall_mem_cons.mpr ⟨r_X10_search_1, List.forall_mem_cons.mpr ⟨r_X10_search_4, List.forall_mem_cons.mpr ⟨r_X10_search_7, List.forall_mem_cons.mpr ⟨r_X10_search_10, List.forall_mem_cons.mpr ⟨r_X10_search_17, fun _ h => absurd h List.not_mem_nil⟩⟩⟩⟩⟩⟩
set_option maxRecDepth 100000 in
theorem tq_X10_search_0 : tf_X10_search = tl_X10_search.map (fun q => (q.1, stepOf NPf md_X10_search q.2)) := rfl
theorem ro_X10_search : RowsOK (md_X10_search, tl_X10_search) tf_X10_search := ⟨tq_X10_search_0, ok_X10_search_0⟩
theorem r_X10_isCut_0 : IOK WB AD SR FW TB md_X10_isCut 0 (.aload_n 0, 0, 0, 0, []) := io_plain (by decide +kernel) rfl
theorem r_X10_isCut_1 : IOK WB AD SR FW TB md_X10_isCut 1 (.getfield 60, 11, 5, 2, []) := io_get (by decide +kernel) fo_RX10_60
theorem r_X10_isCut_4 : IOK WB AD SR FW TB md_X10_isCut 4 (.getfield 286, 2, 3, 1, []) := io_get (by decide +kernel) fo_RX10_286
theorem r_X10_isCut_7 : IOK WB AD SR FW TB md_X10_isCut 7 (.ireturn, 0, 0, 0, []) := io_plain (by decide +kernel) rfl
set_option maxRecDepth 100000 in
theorem ok_X10_isCut_0 : ∀ q ∈ tl_X10_isCut, IOK WB AD SR FW TB md_X10_isCut q.1 q.2 := List.forall_mem_cons.mpr ⟨r_X10_isCut_0, List.forall_mem_cons.mpr ⟨r_X10_isCut_1, List.forall_mem_cons.mpr ⟨r_X10_isCut_4, List.forall_mem_cons.mpr ⟨r_X10_isCut_7, fun _ h => absurd h List.not_mem_nil⟩⟩⟩⟩
set_option maxRecDepth 100000 in
theorem tq_X10_isCut_0 : tf_X10_isCut = tl_X10_isCut.map (fun q => (q.1, stepOf NPf md_X10_isCut q.2)) := rfl
theorem ro_X10_isCut : RowsOK (md_X10_isCut, tl_X10_isCut) tf_X10_isCut := ⟨tq_X10_isCut_0, ok_X10_isCut_0⟩
theorem r_X10_finds_0 : IOK WB AD SR FW TB md_X10_finds 0 (.aload_n 0, 0, 0, 0, []) := io_plain (by decide +kernel) rfl
theorem r_X10_finds_1 : IOK WB AD SR FW TB md_X10_finds 1 (.invokevirtual 303, 99, 11, 0, []) := io_virt (by decide +kernel) tb_X10_hasPattern (wb_6 97 rfl rfl) in_X10_hasPattern se_X10_hasPattern ⟨_, rfl, rfl⟩ pr_X10_hasPattern (by decide)
theorem r_X10_finds_4 : IOK WB AD SR FW TB md_X10_finds 4 (.ifCond .ne 14, 0, 0, 0, []) := io_plain (by decide +kernel) rfl
set_option maxRecDepth 100000 in
theorem r_X10_finds_7 : IOK WB AD SR FW TB md_X10_finds 7 (.new 82, 100, 306, 86, [1]) := io_thx 0 rfl (thk_mk RX10 rfl 82 306 86 0 "there is no top, or it has too many variables" true (List.mem_of_getElem? (i := 24) rfl) (by decide) (by decide +kernel) (by decide +kernel) ⟨by decide +kernel, by decide +kernel, by decide +kernel⟩ (wb_4 188 rfl rfl) (wb_1 21 rfl rfl) at_RX10_86_0 rfl) (by decide +kernel)
theorem r_X10_finds_10 : IOK WB AD SR FW TB md_X10_finds 10 (.dup, 0, 0, 0, []) := io_plain (by decide +kernel) rfl
set_option maxRecDepth 100000 in
theorem ok_X10_finds_0 : ∀ q ∈ tl_X10_finds, IOK WB AD SR FW TB md_X10_finds q.1 q.2 := List.forall_mem_cons.mpr ⟨r_X10_finds_0, List.forall_mem_cons.mpr ⟨r_X10_finds_1, List.forall_mem_cons.mpr ⟨r_X10_finds_4, List.forall_mem_cons.mpr ⟨r_X10_finds_7, List.forall_mem_cons.mpr ⟨r_X10_finds_10, fun _ h => absurd h List.not_mem_nil⟩⟩⟩⟩⟩
set_option maxRecDepth 100000 in
theorem tq_X10_finds_0 : tf_X10_finds = tl_X10_finds.map (fun q => (q.1, stepOf NPf md_X10_finds q.2)) := rfl
theorem ro_X10_finds : RowsOK (md_X10_finds, tl_X10_finds) tf_X10_finds := ⟨tq_X10_finds_0, ok_X10_finds_0⟩
theorem r_X10_test_0 : IOK WB AD SR FW TB md_X10_test 0 (.aload_n 0, 0, 0, 0, []) := io_plain (by decide +kernel) rfl
theorem r_X10_test_1 : IOK WB AD SR FW TB md_X10_test 1 (.invokevirtual 303, 99, 11, 0, []) := io_virt (by decide +kernel) tb_X10_hasPattern (wb_6 97 rfl rfl) in_X10_hasPattern se_X10_hasPattern ⟨_, rfl, rfl⟩ pr_X10_hasPattern (by decide)
theorem r_X10_test_4 : IOK WB AD SR FW TB md_X10_test 4 (.ifCond .ne 14, 0, 0, 0, []) := io_plain (by decide +kernel) rfl
set_option maxRecDepth 100000 in
theorem r_X10_test_7 : IOK WB AD SR FW TB md_X10_test 7 (.new 82, 100, 306, 86, [1]) := io_thx 0 rfl (thk_mk RX10 rfl 82 306 86 0 "there is no top, or it has too many variables" true (List.mem_of_getElem? (i := 24) rfl) (by decide) (by decide +kernel) (by decide +kernel) ⟨by decide +kernel, by decide +kernel, by decide +kernel⟩ (wb_4 188 rfl rfl) (wb_1 21 rfl rfl) at_RX10_86_0 rfl) (by decide +kernel)
theorem r_X10_test_10 : IOK WB AD SR FW TB md_X10_test 10 (.dup, 0, 0, 0, []) := io_plain (by decide +kernel) rfl
set_option maxRecDepth 100000 in
theorem ok_X10_test_0 : ∀ q ∈ tl_X10_test, IOK WB AD SR FW TB md_X10_test q.1 q.2 := List.forall_mem_cons.mpr ⟨r_X10_test_0, List.forall_mem_cons.mpr ⟨r_X10_test_1, List.forall_mem_cons.mpr ⟨r_X10_test_4, List.forall_mem_cons.mpr ⟨r_X10_test_7, List.forall_mem_cons.mpr ⟨r_X10_test_10, fun _ h => absurd h List.not_mem_nil⟩⟩⟩⟩⟩
set_option maxRecDepth 100000 in
theorem tq_X10_test_0 : tf_X10_test = tl_X10_test.map (fun q => (q.1, stepOf NPf md_X10_test q.2)) := rfl
theorem ro_X10_test : RowsOK (md_X10_test, tl_X10_test) tf_X10_test := ⟨tq_X10_test_0, ok_X10_test_0⟩
