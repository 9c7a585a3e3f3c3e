theorem r_L_law_0 : IOK WB AD SR FW TB md_L_law 0 (.new 8, 11, 0, 0, [2, 2, 2, 2, 2, 2, 2, 2, 0, 0]) := io_new (by decide +kernel) rfl no_RL_8
theorem r_L_law_3 : IOK WB AD SR FW TB md_L_law 3 (.dup, 0, 0, 0, []) := io_plain (by decide +kernel) rfl
theorem r_L_law_4 : IOK WB AD SR FW TB md_L_law 4 (.invokespecial 126, 79, 11, 0, []) := io_spec (by decide +kernel) tb_X10_init (Or.inl (wb_1 37 rfl rfl)) in_X10_init rfl rfl rfl pr_X10_init (by decide)
theorem r_L_law_7 : IOK WB AD SR FW TB md_L_law 7 (.astore_n 1, 0, 0, 0, []) := io_plain (by decide +kernel) rfl
theorem r_L_law_8 : IOK WB AD SR FW TB md_L_law 8 (.new 127, 18, 0, 0, [0, 0, 2, 2, 0, 2, 2, 2, 2, 2, 2, 2, 2, 2, 2, 2, 2, 2, 1, 1, 2, 2, 2, 0, 0, 1, 0, 0, 2, 2, 2, 2, 2, 2, 2, 2, 2, 2, 0, 0, 0, 2, 2, 0, 2]) := io_new (by decide +kernel) rfl no_RL_127
theorem r_L_law_11 : IOK WB AD SR FW TB md_L_law 11 (.dup, 0, 0, 0, []) := io_plain (by decide +kernel) rfl
theorem r_L_law_12 : IOK WB AD SR FW TB md_L_law 12 (.invokespecial 129, 49, 18, 0, []) := io_spec (by decide +kernel) tb_X17_init (Or.inl (wb_7 42 rfl rfl)) in_X17_init rfl rfl rfl pr_X17_init (by decide)
theorem r_L_law_15 : IOK WB AD SR FW TB md_L_law 15 (.astore_n 2, 0, 0, 0, []) := io_plain (by decide +kernel) rfl
theorem r_L_law_16 : IOK WB AD SR FW TB md_L_law 16 (.iconst 1, 0, 0, 0, []) := io_plain (by decide +kernel) rfl
theorem r_L_law_17 : IOK WB AD SR FW TB md_L_law 17 (.newarray .long, 2, 0, 0, []) := io_newa (by decide +kernel) (Or.inr (Or.inr ⟨rfl, rfl⟩)) ac_long
theorem r_L_law_19 : IOK WB AD SR FW TB md_L_law 19 (.astore_n 3, 0, 0, 0, []) := io_plain (by decide +kernel) rfl
theorem r_L_law_20 : IOK WB AD SR FW TB md_L_law 20 (.iconst 0, 0, 0, 0, []) := io_plain (by decide +kernel) rfl
theorem r_L_law_21 : IOK WB AD SR FW TB md_L_law 21 (.istore 4, 0, 0, 0, []) := io_plain (by decide +kernel) rfl
theorem r_L_law_23 : IOK WB AD SR FW TB md_L_law 23 (.iload 4, 0, 0, 0, []) := io_plain (by decide +kernel) rfl
theorem r_L_law_25 : IOK WB AD SR FW TB md_L_law 25 (.aload_n 0, 0, 0, 0, []) := io_plain (by decide +kernel) rfl
theorem r_L_law_26 : IOK WB AD SR FW TB md_L_law 26 (.arraylength, 0, 0, 0, []) := io_plain (by decide +kernel) rfl
theorem r_L_law_27 : IOK WB AD SR FW TB md_L_law 27 (.bipush 6, 0, 0, 0, []) := io_plain (by decide +kernel) rfl
theorem r_L_law_29 : IOK WB AD SR FW TB md_L_law 29 (.isub, 0, 0, 0, []) := io_plain (by decide +kernel) rfl
theorem r_L_law_30 : IOK WB AD SR FW TB md_L_law 30 (.if_icmp .gt 1293, 0, 0, 0, []) := io_plain (by decide +kernel) rfl
theorem r_L_law_33 : IOK WB AD SR FW TB md_L_law 33 (.aload_n 0, 0, 0, 0, []) := io_plain (by decide +kernel) rfl
theorem r_L_law_34 : IOK WB AD SR FW TB md_L_law 34 (.iload 4, 0, 0, 0, []) := io_plain (by decide +kernel) rfl
theorem r_L_law_36 : IOK WB AD SR FW TB md_L_law 36 (.iaload, 0, 0, 0, []) := io_plain (by decide +kernel) rfl
theorem r_L_law_37 : IOK WB AD SR FW TB md_L_law 37 (.bipush 63, 0, 0, 0, []) := io_plain (by decide +kernel) rfl
theorem r_L_law_39 : IOK WB AD SR FW TB md_L_law 39 (.iand, 0, 0, 0, []) := io_plain (by decide +kernel) rfl
theorem r_L_law_40 : IOK WB AD SR FW TB md_L_law 40 (.tableswitch 1277 0 38 #[172, 188, 228, 268, 320, 396, 424, 452, 480, 508, 521, 537, 565, 581, 597, 637, 709, 722, 738, 754, 770, 786, 799, 827, 855, 883, 911, 939, 955, 971, 1015, 1031, 1047, 1060, 1088, 1140, 1168, 1181, 1221], 0, 0, 0, []) := io_tsw ⟨172, by decide +kernel⟩
theorem r_L_law_308 : IOK WB AD SR FW TB md_L_law 308 (.aload_n 1, 0, 0, 0, []) := io_plain (by decide +kernel) rfl
theorem r_L_law_309 : IOK WB AD SR FW TB md_L_law 309 (.aload_n 0, 0, 0, 0, []) := io_plain (by decide +kernel) rfl
theorem r_L_law_310 : IOK WB AD SR FW TB md_L_law 310 (.iload 4, 0, 0, 0, []) := io_plain (by decide +kernel) rfl
theorem r_L_law_312 : IOK WB AD SR FW TB md_L_law 312 (.iconst 1, 0, 0, 0, []) := io_plain (by decide +kernel) rfl
theorem r_L_law_313 : IOK WB AD SR FW TB md_L_law 313 (.iadd, 0, 0, 0, []) := io_plain (by decide +kernel) rfl
theorem r_L_law_314 : IOK WB AD SR FW TB md_L_law 314 (.iaload, 0, 0, 0, []) := io_plain (by decide +kernel) rfl
theorem r_L_law_315 : IOK WB AD SR FW TB md_L_law 315 (.aload_n 0, 0, 0, 0, []) := io_plain (by decide +kernel) rfl
theorem r_L_law_316 : IOK WB AD SR FW TB md_L_law 316 (.iload 4, 0, 0, 0, []) := io_plain (by decide +kernel) rfl
theorem r_L_law_318 : IOK WB AD SR FW TB md_L_law 318 (.iconst 2, 0, 0, 0, []) := io_plain (by decide +kernel) rfl
theorem r_L_law_319 : IOK WB AD SR FW TB md_L_law 319 (.iadd, 0, 0, 0, []) := io_plain (by decide +kernel) rfl
theorem r_L_law_320 : IOK WB AD SR FW TB md_L_law 320 (.iaload, 0, 0, 0, []) := io_plain (by decide +kernel) rfl
theorem r_L_law_321 : IOK WB AD SR FW TB md_L_law 321 (.aload_n 0, 0, 0, 0, []) := io_plain (by decide +kernel) rfl
theorem r_L_law_322 : IOK WB AD SR FW TB md_L_law 322 (.iload 4, 0, 0, 0, []) := io_plain (by decide +kernel) rfl
theorem r_L_law_324 : IOK WB AD SR FW TB md_L_law 324 (.iconst 3, 0, 0, 0, []) := io_plain (by decide +kernel) rfl
theorem r_L_law_325 : IOK WB AD SR FW TB md_L_law 325 (.iadd, 0, 0, 0, []) := io_plain (by decide +kernel) rfl
theorem r_L_law_326 : IOK WB AD SR FW TB md_L_law 326 (.iaload, 0, 0, 0, []) := io_plain (by decide +kernel) rfl
theorem r_L_law_327 : IOK WB AD SR FW TB md_L_law 327 (.aload_n 3, 0, 0, 0, []) := io_plain (by decide +kernel) rfl
theorem r_L_law_328 : IOK WB AD SR FW TB md_L_law 328 (.invokestatic 143, 91, 0, 0, []) := io_stat (by decide +kernel) tb_L_operator (Or.inl (wb_5 84 rfl rfl)) st_L_operator pr_L_operator
theorem r_L_law_331 : IOK WB AD SR FW TB md_L_law 331 (.istore 5, 0, 0, 0, []) := io_plain (by decide +kernel) rfl
theorem r_L_law_333 : IOK WB AD SR FW TB md_L_law 333 (.aload_n 2, 0, 0, 0, []) := io_plain (by decide +kernel) rfl
theorem r_L_law_334 : IOK WB AD SR FW TB md_L_law 334 (.aload_n 0, 0, 0, 0, []) := io_plain (by decide +kernel) rfl
theorem r_L_law_335 : IOK WB AD SR FW TB md_L_law 335 (.iload 4, 0, 0, 0, []) := io_plain (by decide +kernel) rfl
theorem r_L_law_337 : IOK WB AD SR FW TB md_L_law 337 (.iconst 1, 0, 0, 0, []) := io_plain (by decide +kernel) rfl
theorem r_L_law_338 : IOK WB AD SR FW TB md_L_law 338 (.iadd, 0, 0, 0, []) := io_plain (by decide +kernel) rfl
theorem r_L_law_339 : IOK WB AD SR FW TB md_L_law 339 (.iaload, 0, 0, 0, []) := io_plain (by decide +kernel) rfl
theorem r_L_law_340 : IOK WB AD SR FW TB md_L_law 340 (.aload_n 0, 0, 0, 0, []) := io_plain (by decide +kernel) rfl
theorem r_L_law_341 : IOK WB AD SR FW TB md_L_law 341 (.iload 4, 0, 0, 0, []) := io_plain (by decide +kernel) rfl
theorem r_L_law_343 : IOK WB AD SR FW TB md_L_law 343 (.iconst 2, 0, 0, 0, []) := io_plain (by decide +kernel) rfl
theorem r_L_law_344 : IOK WB AD SR FW TB md_L_law 344 (.iadd, 0, 0, 0, []) := io_plain (by decide +kernel) rfl
theorem r_L_law_345 : IOK WB AD SR FW TB md_L_law 345 (.iaload, 0, 0, 0, []) := io_plain (by decide +kernel) rfl
theorem r_L_law_346 : IOK WB AD SR FW TB md_L_law 346 (.aload_n 0, 0, 0, 0, []) := io_plain (by decide +kernel) rfl
theorem r_L_law_347 : IOK WB AD SR FW TB md_L_law 347 (.iload 4, 0, 0, 0, []) := io_plain (by decide +kernel) rfl
theorem r_L_law_349 : IOK WB AD SR FW TB md_L_law 349 (.iconst 3, 0, 0, 0, []) := io_plain (by decide +kernel) rfl
theorem r_L_law_350 : IOK WB AD SR FW TB md_L_law 350 (.iadd, 0, 0, 0, []) := io_plain (by decide +kernel) rfl
theorem r_L_law_351 : IOK WB AD SR FW TB md_L_law 351 (.iaload, 0, 0, 0, []) := io_plain (by decide +kernel) rfl
theorem r_L_law_352 : IOK WB AD SR FW TB md_L_law 352 (.invokevirtual 146, 67, 18, 0, []) := io_virt (by decide +kernel) tb_X17_operator (Or.inl (wb_10 141 rfl rfl)) in_X17_operator se_X17_operator ⟨_, rfl, rfl⟩ pr_X17_operator (by decide)
theorem r_L_law_355 : IOK WB AD SR FW TB md_L_law 355 (.istore 6, 0, 0, 0, []) := io_plain (by decide +kernel) rfl
theorem r_L_law_357 : IOK WB AD SR FW TB md_L_law 357 (.goto 960, 0, 0, 0, []) := io_plain (by decide +kernel) rfl
theorem r_L_law_464 : IOK WB AD SR FW TB md_L_law 464 (.aload_n 1, 0, 0, 0, []) := io_plain (by decide +kernel) rfl
theorem r_L_law_465 : IOK WB AD SR FW TB md_L_law 465 (.aload_n 0, 0, 0, 0, []) := io_plain (by decide +kernel) rfl
theorem r_L_law_466 : IOK WB AD SR FW TB md_L_law 466 (.iload 4, 0, 0, 0, []) := io_plain (by decide +kernel) rfl
theorem r_L_law_468 : IOK WB AD SR FW TB md_L_law 468 (.iconst 1, 0, 0, 0, []) := io_plain (by decide +kernel) rfl
theorem r_L_law_469 : IOK WB AD SR FW TB md_L_law 469 (.iadd, 0, 0, 0, []) := io_plain (by decide +kernel) rfl
theorem r_L_law_470 : IOK WB AD SR FW TB md_L_law 470 (.iaload, 0, 0, 0, []) := io_plain (by decide +kernel) rfl
theorem r_L_law_471 : IOK WB AD SR FW TB md_L_law 471 (.aload_n 3, 0, 0, 0, []) := io_plain (by decide +kernel) rfl
theorem r_L_law_472 : IOK WB AD SR FW TB md_L_law 472 (.invokestatic 155, 73, 0, 0, []) := io_stat (by decide +kernel) tb_L_apply (Or.inl (wb_5 133 rfl rfl)) st_L_apply pr_L_apply
theorem r_L_law_475 : IOK WB AD SR FW TB md_L_law 475 (.istore 5, 0, 0, 0, []) := io_plain (by decide +kernel) rfl
theorem r_L_law_477 : IOK WB AD SR FW TB md_L_law 477 (.aload_n 2, 0, 0, 0, []) := io_plain (by decide +kernel) rfl
theorem r_L_law_478 : IOK WB AD SR FW TB md_L_law 478 (.aload_n 0, 0, 0, 0, []) := io_plain (by decide +kernel) rfl
theorem r_L_law_479 : IOK WB AD SR FW TB md_L_law 479 (.iload 4, 0, 0, 0, []) := io_plain (by decide +kernel) rfl
theorem r_L_law_481 : IOK WB AD SR FW TB md_L_law 481 (.iconst 1, 0, 0, 0, []) := io_plain (by decide +kernel) rfl
theorem r_L_law_482 : IOK WB AD SR FW TB md_L_law 482 (.iadd, 0, 0, 0, []) := io_plain (by decide +kernel) rfl
theorem r_L_law_483 : IOK WB AD SR FW TB md_L_law 483 (.iaload, 0, 0, 0, []) := io_plain (by decide +kernel) rfl
theorem r_L_law_484 : IOK WB AD SR FW TB md_L_law 484 (.invokevirtual 157, 43, 18, 0, []) := io_virt (by decide +kernel) tb_X17_apply (Or.inl (wb_10 153 rfl rfl)) in_X17_apply se_X17_apply ⟨_, rfl, rfl⟩ pr_X17_apply (by decide)
theorem r_L_law_487 : IOK WB AD SR FW TB md_L_law 487 (.istore 6, 0, 0, 0, []) := io_plain (by decide +kernel) rfl
theorem r_L_law_489 : IOK WB AD SR FW TB md_L_law 489 (.goto 828, 0, 0, 0, []) := io_plain (by decide +kernel) rfl
theorem r_L_law_677 : IOK WB AD SR FW TB md_L_law 677 (.aload_n 1, 0, 0, 0, []) := io_plain (by decide +kernel) rfl
theorem r_L_law_678 : IOK WB AD SR FW TB md_L_law 678 (.aload_n 0, 0, 0, 0, []) := io_plain (by decide +kernel) rfl
theorem r_L_law_679 : IOK WB AD SR FW TB md_L_law 679 (.iload 4, 0, 0, 0, []) := io_plain (by decide +kernel) rfl
theorem r_L_law_681 : IOK WB AD SR FW TB md_L_law 681 (.iconst 1, 0, 0, 0, []) := io_plain (by decide +kernel) rfl
theorem r_L_law_682 : IOK WB AD SR FW TB md_L_law 682 (.iadd, 0, 0, 0, []) := io_plain (by decide +kernel) rfl
theorem r_L_law_683 : IOK WB AD SR FW TB md_L_law 683 (.iaload, 0, 0, 0, []) := io_plain (by decide +kernel) rfl
theorem r_L_law_684 : IOK WB AD SR FW TB md_L_law 684 (.ifCond .eq 7, 0, 0, 0, []) := io_plain (by decide +kernel) rfl
theorem r_L_law_691 : IOK WB AD SR FW TB md_L_law 691 (.iconst 0, 0, 0, 0, []) := io_plain (by decide +kernel) rfl
theorem r_L_law_692 : IOK WB AD SR FW TB md_L_law 692 (.aload_n 0, 0, 0, 0, []) := io_plain (by decide +kernel) rfl
theorem r_L_law_693 : IOK WB AD SR FW TB md_L_law 693 (.iload 4, 0, 0, 0, []) := io_plain (by decide +kernel) rfl
theorem r_L_law_695 : IOK WB AD SR FW TB md_L_law 695 (.iconst 2, 0, 0, 0, []) := io_plain (by decide +kernel) rfl
theorem r_L_law_696 : IOK WB AD SR FW TB md_L_law 696 (.iadd, 0, 0, 0, []) := io_plain (by decide +kernel) rfl
theorem r_L_law_697 : IOK WB AD SR FW TB md_L_law 697 (.iaload, 0, 0, 0, []) := io_plain (by decide +kernel) rfl
theorem r_L_law_698 : IOK WB AD SR FW TB md_L_law 698 (.ifCond .eq 7, 0, 0, 0, []) := io_plain (by decide +kernel) rfl
theorem r_L_law_705 : IOK WB AD SR FW TB md_L_law 705 (.iconst 0, 0, 0, 0, []) := io_plain (by decide +kernel) rfl
theorem r_L_law_706 : IOK WB AD SR FW TB md_L_law 706 (.aload_n 3, 0, 0, 0, []) := io_plain (by decide +kernel) rfl
theorem r_L_law_707 : IOK WB AD SR FW TB md_L_law 707 (.invokestatic 183, 102, 0, 0, []) := io_stat (by decide +kernel) tb_L_tell (Or.inl (wb_5 226 rfl rfl)) st_L_tell pr_L_tell
theorem r_L_law_710 : IOK WB AD SR FW TB md_L_law 710 (.istore 5, 0, 0, 0, []) := io_plain (by decide +kernel) rfl
theorem r_L_law_712 : IOK WB AD SR FW TB md_L_law 712 (.aload_n 2, 0, 0, 0, []) := io_plain (by decide +kernel) rfl
theorem r_L_law_713 : IOK WB AD SR FW TB md_L_law 713 (.aload_n 0, 0, 0, 0, []) := io_plain (by decide +kernel) rfl
theorem r_L_law_714 : IOK WB AD SR FW TB md_L_law 714 (.iload 4, 0, 0, 0, []) := io_plain (by decide +kernel) rfl
theorem r_L_law_716 : IOK WB AD SR FW TB md_L_law 716 (.iconst 1, 0, 0, 0, []) := io_plain (by decide +kernel) rfl
theorem r_L_law_717 : IOK WB AD SR FW TB md_L_law 717 (.iadd, 0, 0, 0, []) := io_plain (by decide +kernel) rfl
theorem r_L_law_718 : IOK WB AD SR FW TB md_L_law 718 (.iaload, 0, 0, 0, []) := io_plain (by decide +kernel) rfl
theorem r_L_law_719 : IOK WB AD SR FW TB md_L_law 719 (.ifCond .eq 7, 0, 0, 0, []) := io_plain (by decide +kernel) rfl
theorem r_L_law_726 : IOK WB AD SR FW TB md_L_law 726 (.iconst 0, 0, 0, 0, []) := io_plain (by decide +kernel) rfl
theorem r_L_law_727 : IOK WB AD SR FW TB md_L_law 727 (.aload_n 0, 0, 0, 0, []) := io_plain (by decide +kernel) rfl
theorem r_L_law_728 : IOK WB AD SR FW TB md_L_law 728 (.iload 4, 0, 0, 0, []) := io_plain (by decide +kernel) rfl
theorem r_L_law_730 : IOK WB AD SR FW TB md_L_law 730 (.iconst 2, 0, 0, 0, []) := io_plain (by decide +kernel) rfl
theorem r_L_law_731 : IOK WB AD SR FW TB md_L_law 731 (.iadd, 0, 0, 0, []) := io_plain (by decide +kernel) rfl
theorem r_L_law_732 : IOK WB AD SR FW TB md_L_law 732 (.iaload, 0, 0, 0, []) := io_plain (by decide +kernel) rfl
theorem r_L_law_733 : IOK WB AD SR FW TB md_L_law 733 (.ifCond .eq 7, 0, 0, 0, []) := io_plain (by decide +kernel) rfl
theorem r_L_law_740 : IOK WB AD SR FW TB md_L_law 740 (.iconst 0, 0, 0, 0, []) := io_plain (by decide +kernel) rfl
theorem r_L_law_741 : IOK WB AD SR FW TB md_L_law 741 (.invokevirtual 186, 78, 18, 0, []) := io_virt (by decide +kernel) tb_X17_tell (Or.inl (wb_10 228 rfl rfl)) in_X17_tell se_X17_tell ⟨_, rfl, rfl⟩ pr_X17_tell (by decide)
theorem r_L_law_744 : IOK WB AD SR FW TB md_L_law 744 (.istore 6, 0, 0, 0, []) := io_plain (by decide +kernel) rfl
theorem r_L_law_746 : IOK WB AD SR FW TB md_L_law 746 (.goto 571, 0, 0, 0, []) := io_plain (by decide +kernel) rfl
theorem r_L_law_762 : IOK WB AD SR FW TB md_L_law 762 (.aload_n 1, 0, 0, 0, []) := io_plain (by decide +kernel) rfl
theorem r_L_law_763 : IOK WB AD SR FW TB md_L_law 763 (.aload_n 3, 0, 0, 0, []) := io_plain (by decide +kernel) rfl
theorem r_L_law_764 : IOK WB AD SR FW TB md_L_law 764 (.invokestatic 191, 106, 0, 0, []) := io_stat (by decide +kernel) tb_L_reduce (Or.inl (wb_6 0 rfl rfl)) st_L_reduce pr_L_reduce
theorem r_L_law_767 : IOK WB AD SR FW TB md_L_law 767 (.istore 5, 0, 0, 0, []) := io_plain (by decide +kernel) rfl
theorem r_L_law_769 : IOK WB AD SR FW TB md_L_law 769 (.aload_n 2, 0, 0, 0, []) := io_plain (by decide +kernel) rfl
theorem r_L_law_770 : IOK WB AD SR FW TB md_L_law 770 (.invokevirtual 193, 95, 18, 0, []) := io_virt (by decide +kernel) tb_X17_reduce (Or.inl (wb_10 236 rfl rfl)) in_X17_reduce se_X17_reduce ⟨_, rfl, rfl⟩ pr_X17_reduce (by decide)
theorem r_L_law_1317 : IOK WB AD SR FW TB md_L_law 1317 (.iinc 4 6, 0, 0, 0, []) := io_plain (by decide +kernel) rfl
theorem r_L_law_1320 : IOK WB AD SR FW TB md_L_law 1320 (.goto (-1297), 0, 0, 0, []) := io_plain (by decide +kernel) rfl
set_option maxRecDepth 100000 in
theorem ok_L_law_0 : ∀ q ∈ tl_L_law_0, IOK WB AD SR FW TB md_L_law q.1 q.2 := List.forall_mem_cons.mpr ⟨r_L_law_0, List.forall_mem_cons.mpr ⟨r_L_law_3, List.forall_mem_cons.mpr ⟨r_L_law_4, List.forall_mem_cons.mpr ⟨r_L_law_7, List.forall_mem_cons.mpr ⟨r_L_law_8, List.forall_mem_cons.mpr ⟨r_L_law_11, List.forall_mem_cons.mpr ⟨r_L_law_12, List.forall_mem_cons.mpr ⟨r_L_law_15, List.forall_mem_cons.mpr ⟨r_L_law_16, List.forall_mem_cons.mpr ⟨r_L_law_17, List.forall_mem_cons.mpr ⟨r_L_law_19, List.forall_mem_cons.mpr ⟨r_L_law_20, List.forall_mem_cons.mpr ⟨r_L_law_21, List.forall_mem_cons.mpr ⟨r_L_law_23, List.forall_mem_cons.mpr ⟨r_L_law_25, List.forall_mem_cons.mpr ⟨r_L_law_26, List.forall_mem_cons.mpr ⟨r_L_law_27, List.forall_mem_cons.mpr ⟨r_L_law_29, List.forall_mem_cons.mpr ⟨r_L_law_30, List.forall_mem_cons.mpr ⟨r_L_law_33, List.forall_mem_cons.mpr ⟨r_L_law_34, List.forall_mem_cons.mpr ⟨r_L_law_36, List.forall_mem_cons.mpr ⟨r_L_law_37, List.forall_mem_cons.mpr ⟨r_L_law_39, List.forall_mem_cons.mpr ⟨r_L_law_40, List.forall_mem_cons.mpr ⟨r_L_law_308, List.forall_mem_cons.mpr ⟨r_L_law_309, List.forall_mem_cons.mpr ⟨r_L_law_310, List.forall_mem_cons.mpr ⟨r_L_law_312, List.forall_mem_cons.mpr ⟨r_L_law_313, List.forall_mem_cons.mpr ⟨r_L_law_314, List.forall_mem_cons.mpr ⟨r_L_law_315, List.forall_mem_cons.mpr ⟨r_L_law_316, List.forall_mem_cons.mpr ⟨r_L_law_318, List.forall_mem_cons.mpr ⟨r_L_law_319, List.forall_mem_cons.mpr ⟨r_L_law_320, List.forall_mem_cons.mpr ⟨r_L_law_321, List.forall_mem_cons.mpr ⟨r_L_law_322, List.forall_mem_cons.mpr ⟨r_L_law_324, List.forall_mem_cons.mpr ⟨r_L_law_325, fun _ h => absurd h List.not_mem_nil⟩⟩⟩⟩⟩⟩⟩⟩⟩⟩⟩⟩⟩⟩⟩⟩⟩⟩⟩⟩⟩⟩⟩⟩⟩⟩⟩⟩⟩⟩⟩⟩⟩⟩⟩⟩⟩⟩⟩⟩
set_option maxRecDepth 100000 in
theorem tq_L_law_0 : tf_L_law_0 = tl_L_law_0.map (fun q => (q.1, stepOf NPf md_L_law q.2)) := rfl
set_option maxRecDepth 100000 in
theorem ok_L_law_1 : ∀ q ∈ tl_L_law_1, IOK WB AD SR FW TB md_L_law q.1 q.2 := List.forall_mem_cons.mpr ⟨r_L_law_326, List.forall_mem_cons.mpr ⟨r_L_law_327, List.forall_mem_cons.mpr ⟨r_L_law_328, List.forall_mem_cons.mpr ⟨r_L_law_331, List.forall_mem_cons.mpr ⟨r_L_law_333, List.forall_mem_cons.mpr ⟨r_L_law_334, List.forall_mem_cons.mpr ⟨r_L_law_335, List.forall_mem_cons.mpr ⟨r_L_law_337, List.forall_mem_cons.mpr ⟨r_L_law_338, List.forall_mem_cons.mpr ⟨r_L_law_339, List.forall_mem_cons.mpr ⟨r_L_law_340, List.forall_mem_cons.mpr ⟨r_L_law_341, List.forall_mem_cons.mpr ⟨r_L_law_343, List.forall_mem_cons.mpr ⟨r_L_law_344, List.forall_mem_cons.mpr ⟨r_L_law_345, List.forall_mem_cons.mpr ⟨r_L_law_346, List.forall_mem_cons.mpr ⟨r_L_law_347, List.forall_mem_cons.mpr ⟨r_L_law_349, List.forall_mem_cons.mpr ⟨r_L_law_350, List.forall_mem_cons.mpr ⟨r_L_law_351, List.forall_mem_cons.mpr ⟨r_L_law_352, List.forall_mem_cons.mpr ⟨r_L_law_355, List.forall_mem_cons.mpr ⟨r_L_law_357, List.forall_mem_cons.mpr ⟨r_L_law_464, List.forall_mem_cons.mpr ⟨r_L_law_465, List.forall_mem_cons.mpr ⟨r_L_law_466, List.forall_mem_cons.mpr ⟨r_L_law_468, List.forall_mem_cons.mpr ⟨r_L_law_469, List.forall_mem_cons.mpr ⟨r_L_law_470, List.forall_mem_cons.mpr ⟨r_L_law_471, List.forall_mem_cons.mpr ⟨r_L_law_472, List.forall_mem_cons.mpr ⟨r_L_law_475, List.forall_mem_cons.mpr ⟨r_L_law_477, List.forall_mem_cons.mpr ⟨r_L_law_478, List.forall_mem_cons.mpr ⟨r_L_law_479, List.forall_mem_cons.mpr ⟨r_L_law_481, List.forall_mem_cons.mpr ⟨r_L_law_482, List.forall_mem_cons.mpr ⟨r_L_law_483, List.forall_mem_cons.mpr ⟨r_L_law_484, List.forall_mem_cons.mpr ⟨r_L_law_487, fun _ h => absurd h List.not_mem_nil⟩⟩⟩⟩⟩⟩⟩⟩⟩⟩⟩⟩⟩⟩⟩⟩⟩⟩⟩⟩⟩⟩⟩⟩⟩⟩⟩⟩⟩⟩⟩⟩⟩⟩⟩⟩⟩⟩⟩⟩
set_option maxRecDepth 100000 in
theorem tq_L_law_1 : tf_L_law_1 = tl_L_law_1.map (fun q => (q.1, stepOf NPf md_L_law q.2)) := rfl
set_option maxRecDepth 100000 in
theorem ok_L_law_2 : ∀ q ∈ tl_L_law_2, IOK WB AD SR FW TB md_L_law q.1 q.2 := List.forall_mem_cons.mpr ⟨r_L_law_489, List.forall_mem_cons.mpr ⟨r_L_law_677, List.forall_mem_cons.mpr ⟨r_L_law_678, List.forall_mem_cons.mpr ⟨r_L_law_679, List.forall_mem_cons.mpr ⟨r_L_law_681, List.forall_mem_cons.mpr ⟨r_L_law_682, List.forall_mem_cons.mpr ⟨r_L_law_683, List.forall_mem_cons.mpr ⟨r_L_law_684, List.forall_mem_cons.mpr ⟨r_L_law_691, List.forall_mem_cons.mpr ⟨r_L_law_692, List.forall_mem_cons.mpr ⟨r_L_law_693, List.forall_mem_cons.mpr ⟨r_L_law_695, List.forall_mem_cons.mpr ⟨r_L_law_696, List.forall_mem_cons.mpr ⟨r_L_law_697, List.forall_mem_cons.mpr ⟨r_L_law_698, List.forall_mem_cons.mpr ⟨r_L_law_705, List.forall_mem_cons.mpr ⟨r_L_law_706, List.forall_mem_cons.mpr ⟨r_L_law_707, List.forall_mem_cons.mpr ⟨r_L_law_710, List.forall_mem_cons.mpr ⟨r_L_law_712, List.forall_mem_cons.mpr ⟨r_L_law_713, List.forall_mem_cons.mpr ⟨r_L_law_714, List.forall_mem_cons.mpr ⟨r_L_law_716, List.forall_mem_cons.mpr ⟨r_L_law_717, List.forall_mem_cons.mpr ⟨r_L_law_718, List.forall_mem_cons.mpr ⟨r_L_law_719, List.forall_mem_cons.mpr ⟨r_L_law_726, List.forall_mem_cons.mpr ⟨r_L_law_727, List.forall_mem_cons.mpr ⟨r_L_law_728, List.forall_mem_cons.mpr ⟨r_L_law_730, List.forall_mem_cons.mpr ⟨r_L_law_731, List.forall_mem_cons.mpr ⟨r_L_law_732, List.forall_mem_cons.mpr ⟨r_L_law_733, List.forall_mem_cons.mpr ⟨r_L_law_740, List.forall_mem_cons.mpr ⟨r_L_law_741, List.forall_mem_cons.mpr ⟨r_L_law_744, List.forall_mem_cons.mpr ⟨r_L_law_746, List.forall_mem_cons.mpr ⟨r_L_law_762, List.forall_mem_cons.mpr ⟨r_L_law_763, List.forall_mem_cons.mpr ⟨r_L_law_764, fun _ h => absurd h List.not_mem_nil⟩⟩⟩⟩⟩⟩⟩⟩⟩⟩⟩⟩⟩⟩⟩⟩⟩⟩⟩⟩⟩⟩⟩⟩⟩⟩⟩⟩⟩⟩⟩⟩⟩⟩⟩⟩⟩⟩⟩⟩
set_option maxRecDepth 100000 in
theorem tq_L_law_2 : tf_L_law_2 = tl_L_law_2.map (fun q => (q.1, stepOf NPf md_L_law q.2)) := rfl
set_option maxRecDepth 100000 in
theorem ok_L_law_3 : ∀ q ∈ tl_L_law_3, IOK WB AD SR FW TB md_L_law q.1 q.2 := List.forall_mem_cons.mpr ⟨r_L_law_767, List.forall_mem_cons.mpr ⟨r_L_law_769, List.forall_mem_cons.mpr ⟨r_L_law_770, List.forall_mem_cons.mpr ⟨r_L_law_1317, List.forall_mem_cons.mpr ⟨r_L_law_1320, fun _ h => absurd h List.not_mem_nil⟩⟩⟩⟩⟩
set_option maxRecDepth 100000 in
theorem tq_L_law_3 : tf_L_law_3 = tl_L_law_3.map (fun q => (q.1, stepOf NPf md_L_law q.2)) := rfl
theorem ro_L_law : RowsOK (md_L_law, tl_L_law) tf_L_law := rows_app ⟨tq_L_law_0, ok_L_law_0⟩ (rows_app ⟨tq_L_law_1, ok_L_law_1⟩ (rows_app ⟨tq_L_law_2, ok_L_law_2⟩ (⟨tq_L_law_3, ok_L_law_3⟩)))
theorem r_X8_end_0 : IOK WB AD SR FW TB md_X8_end 0 (.iconst 1, 0, 0, 0, []) := io_plain (by decide +kernel) rfl
theorem r_X8_end_1 : IOK WB AD SR FW TB md_X8_end 1 (.istore_n 2, 0, 0, 0, []) := io_plain (by decide +kernel) rfl
theorem r_X8_end_2 : IOK WB AD SR FW TB md_X8_end 2 (.iload_n 1, 0, 0, 0, []) := io_plain (by decide +kernel) rfl
theorem r_X8_end_3 : IOK WB AD SR FW TB md_X8_end 3 (.istore_n 3, 0, 0, 0, []) := io_plain (by decide +kernel) rfl
theorem r_X8_end_4 : IOK WB AD SR FW TB md_X8_end 4 (.iload_n 2, 0, 0, 0, []) := io_plain (by decide +kernel) rfl
theorem r_X8_end_5 : IOK WB AD SR FW TB md_X8_end 5 (.ifCond .le 45, 0, 0, 0, []) := io_plain (by decide +kernel) rfl
theorem r_X8_end_8 : IOK WB AD SR FW TB md_X8_end 8 (.iload_n 3, 0, 0, 0, []) := io_plain (by decide +kernel) rfl
theorem r_X8_end_9 : IOK WB AD SR FW TB md_X8_end 9 (.sipush 27500, 0, 0, 0, []) := io_plain (by decide +kernel) rfl
theorem r_X8_end_12 : IOK WB AD SR FW TB md_X8_end 12 (.if_icmp .ge 38, 0, 0, 0, []) := io_plain (by decide +kernel) rfl
theorem r_X8_end_15 : IOK WB AD SR FW TB md_X8_end 15 (.aload_n 0, 0, 0, 0, []) := io_plain (by decide +kernel) rfl
theorem r_X8_end_16 : IOK WB AD SR FW TB md_X8_end 16 (.getfield 9, 9, 1, 2, []) := io_get (by decide +kernel) fo_RX8_9
theorem r_X8_end_19 : IOK WB AD SR FW TB md_X8_end 19 (.iload_n 3, 0, 0, 0, []) := io_plain (by decide +kernel) rfl
theorem r_X8_end_20 : IOK WB AD SR FW TB md_X8_end 20 (.iaload, 0, 0, 0, []) := io_plain (by decide +kernel) rfl
theorem r_X8_end_21 : IOK WB AD SR FW TB md_X8_end 21 (.istore 4, 0, 0, 0, []) := io_plain (by decide +kernel) rfl
theorem r_X8_end_23 : IOK WB AD SR FW TB md_X8_end 23 (.iload_n 2, 0, 0, 0, []) := io_plain (by decide +kernel) rfl
theorem r_X8_end_24 : IOK WB AD SR FW TB md_X8_end 24 (.iload 4, 0, 0, 0, []) := io_plain (by decide +kernel) rfl
theorem r_X8_end_26 : IOK WB AD SR FW TB md_X8_end 26 (.bipush 32, 0, 0, 0, []) := io_plain (by decide +kernel) rfl
theorem r_X8_end_28 : IOK WB AD SR FW TB md_X8_end 28 (.if_icmp .ge 7, 0, 0, 0, []) := io_plain (by decide +kernel) rfl
theorem r_X8_end_35 : IOK WB AD SR FW TB md_X8_end 35 (.iload 4, 0, 0, 0, []) := io_plain (by decide +kernel) rfl
theorem r_X8_end_37 : IOK WB AD SR FW TB md_X8_end 37 (.bipush 8, 0, 0, 0, []) := io_plain (by decide +kernel) rfl
theorem r_X8_end_39 : IOK WB AD SR FW TB md_X8_end 39 (.irem, 0, 0, 0, []) := io_plain (by decide +kernel) rfl
theorem r_X8_end_40 : IOK WB AD SR FW TB md_X8_end 40 (.iconst 1, 0, 0, 0, []) := io_plain (by decide +kernel) rfl
theorem r_X8_end_41 : IOK WB AD SR FW TB md_X8_end 41 (.isub, 0, 0, 0, []) := io_plain (by decide +kernel) rfl
theorem r_X8_end_42 : IOK WB AD SR FW TB md_X8_end 42 (.iadd, 0, 0, 0, []) := io_plain (by decide +kernel) rfl
theorem r_X8_end_43 : IOK WB AD SR FW TB md_X8_end 43 (.istore_n 2, 0, 0, 0, []) := io_plain (by decide +kernel) rfl
theorem r_X8_end_44 : IOK WB AD SR FW TB md_X8_end 44 (.iinc 3 1, 0, 0, 0, []) := io_plain (by decide +kernel) rfl
theorem r_X8_end_47 : IOK WB AD SR FW TB md_X8_end 47 (.goto (-43), 0, 0, 0, []) := io_plain (by decide +kernel) rfl
theorem r_X8_end_50 : IOK WB AD SR FW TB md_X8_end 50 (.iload_n 3, 0, 0, 0, []) := io_plain (by decide +kernel) rfl
theorem r_X8_end_51 : IOK WB AD SR FW TB md_X8_end 51 (.ireturn, 0, 0, 0, []) := io_plain (by decide +kernel) rfl
set_option maxRecDepth 100000 in
theorem ok_X8_end_0 : ∀ q ∈ tl_X8_end, IOK WB AD SR FW TB md_X8_end q.1 q.2 := List.forall_mem_cons.mpr ⟨r_X8_end_0, List.forall_mem_cons.mpr ⟨r_X8_end_1, List.forall_mem_cons.mpr ⟨r_X8_end_2, List.forall_mem_cons.mpr ⟨r_X8_end_3, List.forall_mem_cons.mpr ⟨r_X8_end_4, List.forall_mem_cons.mpr ⟨r_X8_end_5, List.forall_mem_cons.mpr ⟨r_X8_end_8, List.forall_mem_cons.mpr ⟨r_X8_end_9, List.forall_mem_cons.mpr ⟨r_X8_end_12, List.forall_mem_cons.mpr ⟨r_X8_end_15, List.forall_mem_cons.mpr ⟨r_X8_end_16, List.forall_mem_cons.mpr ⟨r_X8_end_19, List.forall_mem_cons.mpr ⟨r_X8_end_20, List.forall_mem_cons.mpr ⟨r_X8_end_21, List.forall_mem_cons.mpr ⟨r_X8_end_23, List.forall_mem_cons.mpr ⟨r_X8_end_24, List.forall_mem_cons.mpr ⟨r_X8_end_26, List.forall_mem_cons.mpr ⟨r_X8_end_28, List.forall_mem_cons.mpr ⟨r_X8_end_35, List.forall_mem_cons.mpr ⟨r_X8_end_37, List.forall_mem_cons.mpr ⟨r_X8_end_39, List.forall_mem_cons.mpr ⟨r_X8_end_40, List.forall_mem_cons.mpr ⟨r_X8_end_41, List.forall_mem_cons.mpr ⟨r_X8_end_42, List.forall_mem_cons.mpr ⟨r_X8_end_43, List.forall_mem_cons.mpr ⟨r_X8_end_44, List.forall_mem_cons.mpr ⟨r_X8_end_47, List.forall_mem_cons.mpr ⟨r_X8_end_50, List.forall_mem_cons.mpr ⟨r_X8_end_51, fun _ h => absurd h List.not_mem_nil⟩⟩⟩⟩⟩⟩⟩⟩⟩⟩⟩⟩⟩⟩⟩⟩⟩⟩⟩⟩⟩⟩⟩⟩⟩⟩⟩⟩⟩
set_option maxRecDepth 100000 in
theorem tq_X8_end_0 : tf_X8_end = tl_X8_end.map (fun q => (q.1, stepOf NPf md_X8_end q.2)) := rfl
theorem ro_X8_end : RowsOK (md_X8_end, tl_X8_end) tf_X8_end := ⟨tq_X8_end_0, ok_X8_end_0⟩
theorem r_X8_putOn_0 : IOK WB AD SR FW TB md_X8_putOn 0 (.aload_n 0, 0, 0, 0, []) := io_plain (by decide +kernel) rfl
theorem r_X8_putOn_1 : IOK WB AD SR FW TB md_X8_putOn 1 (.getfield 37, 9, 0, 2, []) := io_get (by decide +kernel) fo_RX8_37
theorem r_X8_putOn_4 : IOK WB AD SR FW TB md_X8_putOn 4 (.getfield 90, 8, 5, 2, []) := io_get (by decide +kernel) fo_RX8_90
theorem r_X8_putOn_7 : IOK WB AD SR FW TB md_X8_putOn 7 (.iload_n 1, 0, 0, 0, []) := io_plain (by decide +kernel) rfl
theorem r_X8_putOn_8 : IOK WB AD SR FW TB md_X8_putOn 8 (.iaload, 0, 0, 0, []) := io_plain (by decide +kernel) rfl
theorem r_X8_putOn_9 : IOK WB AD SR FW TB md_X8_putOn 9 (.istore_n 3, 0, 0, 0, []) := io_plain (by decide +kernel) rfl
theorem r_X8_putOn_10 : IOK WB AD SR FW TB md_X8_putOn 10 (.iload_n 3, 0, 0, 0, []) := io_plain (by decide +kernel) rfl
theorem r_X8_putOn_11 : IOK WB AD SR FW TB md_X8_putOn 11 (.iconst 2, 0, 0, 0, []) := io_plain (by decide +kernel) rfl
theorem r_X8_putOn_12 : IOK WB AD SR FW TB md_X8_putOn 12 (.if_icmp .lt 7, 0, 0, 0, []) := io_plain (by decide +kernel) rfl
theorem r_X8_putOn_19 : IOK WB AD SR FW TB md_X8_putOn 19 (.iconst 0, 0, 0, 0, []) := io_plain (by decide +kernel) rfl
theorem r_X8_putOn_20 : IOK WB AD SR FW TB md_X8_putOn 20 (.istore 4, 0, 0, 0, []) := io_plain (by decide +kernel) rfl
theorem r_X8_putOn_22 : IOK WB AD SR FW TB md_X8_putOn 22 (.aload_n 0, 0, 0, 0, []) := io_plain (by decide +kernel) rfl
theorem r_X8_putOn_23 : IOK WB AD SR FW TB md_X8_putOn 23 (.getfield 37, 9, 0, 2, []) := io_get (by decide +kernel) fo_RX8_37
theorem r_X8_putOn_26 : IOK WB AD SR FW TB md_X8_putOn 26 (.getfield 97, 8, 6, 2, []) := io_get (by decide +kernel) fo_RX8_97
theorem r_X8_putOn_29 : IOK WB AD SR FW TB md_X8_putOn 29 (.iload_n 1, 0, 0, 0, []) := io_plain (by decide +kernel) rfl
theorem r_X8_putOn_30 : IOK WB AD SR FW TB md_X8_putOn 30 (.iaload, 0, 0, 0, []) := io_plain (by decide +kernel) rfl
theorem r_X8_putOn_31 : IOK WB AD SR FW TB md_X8_putOn 31 (.istore 5, 0, 0, 0, []) := io_plain (by decide +kernel) rfl
theorem r_X8_putOn_33 : IOK WB AD SR FW TB md_X8_putOn 33 (.iload 5, 0, 0, 0, []) := io_plain (by decide +kernel) rfl
theorem r_X8_putOn_35 : IOK WB AD SR FW TB md_X8_putOn 35 (.iconst (-1), 0, 0, 0, []) := io_plain (by decide +kernel) rfl
theorem r_X8_putOn_36 : IOK WB AD SR FW TB md_X8_putOn 36 (.if_icmp .ne 7, 0, 0, 0, []) := io_plain (by decide +kernel) rfl
theorem r_X8_putOn_39 : IOK WB AD SR FW TB md_X8_putOn 39 (.iconst (-1), 0, 0, 0, []) := io_plain (by decide +kernel) rfl
theorem r_X8_putOn_40 : IOK WB AD SR FW TB md_X8_putOn 40 (.goto 11, 0, 0, 0, []) := io_plain (by decide +kernel) rfl
theorem r_X8_putOn_51 : IOK WB AD SR FW TB md_X8_putOn 51 (.istore 6, 0, 0, 0, []) := io_plain (by decide +kernel) rfl
theorem r_X8_putOn_53 : IOK WB AD SR FW TB md_X8_putOn 53 (.aload_n 0, 0, 0, 0, []) := io_plain (by decide +kernel) rfl
theorem r_X8_putOn_54 : IOK WB AD SR FW TB md_X8_putOn 54 (.getfield 41, 9, 4, 0, []) := io_get (by decide +kernel) fo_RX8_41
theorem r_X8_putOn_57 : IOK WB AD SR FW TB md_X8_putOn 57 (.istore 7, 0, 0, 0, []) := io_plain (by decide +kernel) rfl
theorem r_X8_putOn_59 : IOK WB AD SR FW TB md_X8_putOn 59 (.iconst 0, 0, 0, 0, []) := io_plain (by decide +kernel) rfl
theorem r_X8_putOn_60 : IOK WB AD SR FW TB md_X8_putOn 60 (.istore 8, 0, 0, 0, []) := io_plain (by decide +kernel) rfl
theorem r_X8_putOn_62 : IOK WB AD SR FW TB md_X8_putOn 62 (.aload_n 0, 0, 0, 0, []) := io_plain (by decide +kernel) rfl
theorem r_X8_putOn_63 : IOK WB AD SR FW TB md_X8_putOn 63 (.iload_n 2, 0, 0, 0, []) := io_plain (by decide +kernel) rfl
theorem r_X8_putOn_64 : IOK WB AD SR FW TB md_X8_putOn 64 (.putfield 41, 9, 4, 0, []) := io_put (by decide +kernel) fo_RX8_41 po_RX8_0_9_4_0
theorem r_X8_putOn_67 : IOK WB AD SR FW TB md_X8_putOn 67 (.iload_n 2, 0, 0, 0, []) := io_plain (by decide +kernel) rfl
theorem r_X8_putOn_68 : IOK WB AD SR FW TB md_X8_putOn 68 (.istore 9, 0, 0, 0, []) := io_plain (by decide +kernel) rfl
theorem r_X8_putOn_70 : IOK WB AD SR FW TB md_X8_putOn 70 (.iload 9, 0, 0, 0, []) := io_plain (by decide +kernel) rfl
theorem r_X8_putOn_72 : IOK WB AD SR FW TB md_X8_putOn 72 (.iload 7, 0, 0, 0, []) := io_plain (by decide +kernel) rfl
theorem r_X8_putOn_74 : IOK WB AD SR FW TB md_X8_putOn 74 (.if_icmp .ge 228, 0, 0, 0, []) := io_plain (by decide +kernel) rfl
theorem r_X8_putOn_77 : IOK WB AD SR FW TB md_X8_putOn 77 (.aload_n 0, 0, 0, 0, []) := io_plain (by decide +kernel) rfl
theorem r_X8_putOn_78 : IOK WB AD SR FW TB md_X8_putOn 78 (.getfield 19, 9, 3, 2, []) := io_get (by decide +kernel) fo_RX8_19
theorem r_X8_putOn_81 : IOK WB AD SR FW TB md_X8_putOn 81 (.iload 9, 0, 0, 0, []) := io_plain (by decide +kernel) rfl
theorem r_X8_putOn_83 : IOK WB AD SR FW TB md_X8_putOn 83 (.iaload, 0, 0, 0, []) := io_plain (by decide +kernel) rfl
theorem r_X8_putOn_84 : IOK WB AD SR FW TB md_X8_putOn 84 (.istore 10, 0, 0, 0, []) := io_plain (by decide +kernel) rfl
theorem r_X8_putOn_86 : IOK WB AD SR FW TB md_X8_putOn 86 (.aload_n 0, 0, 0, 0, []) := io_plain (by decide +kernel) rfl
theorem r_X8_putOn_87 : IOK WB AD SR FW TB md_X8_putOn 87 (.getfield 9, 9, 1, 2, []) := io_get (by decide +kernel) fo_RX8_9
theorem r_X8_putOn_90 : IOK WB AD SR FW TB md_X8_putOn 90 (.iload 10, 0, 0, 0, []) := io_plain (by decide +kernel) rfl
theorem r_X8_putOn_92 : IOK WB AD SR FW TB md_X8_putOn 92 (.iaload, 0, 0, 0, []) := io_plain (by decide +kernel) rfl
theorem r_X8_putOn_93 : IOK WB AD SR FW TB md_X8_putOn 93 (.istore 11, 0, 0, 0, []) := io_plain (by decide +kernel) rfl
theorem r_X8_putOn_95 : IOK WB AD SR FW TB md_X8_putOn 95 (.iload 4, 0, 0, 0, []) := io_plain (by decide +kernel) rfl
theorem r_X8_putOn_97 : IOK WB AD SR FW TB md_X8_putOn 97 (.ifCond .eq 18, 0, 0, 0, []) := io_plain (by decide +kernel) rfl
theorem r_X8_putOn_115 : IOK WB AD SR FW TB md_X8_putOn 115 (.iconst 0, 0, 0, 0, []) := io_plain (by decide +kernel) rfl
theorem r_X8_putOn_116 : IOK WB AD SR FW TB md_X8_putOn 116 (.istore 12, 0, 0, 0, []) := io_plain (by decide +kernel) rfl
theorem r_X8_putOn_118 : IOK WB AD SR FW TB md_X8_putOn 118 (.iload 12, 0, 0, 0, []) := io_plain (by decide +kernel) rfl
theorem r_X8_putOn_120 : IOK WB AD SR FW TB md_X8_putOn 120 (.ifCond .eq 11, 0, 0, 0, []) := io_plain (by decide +kernel) rfl
theorem r_X8_putOn_131 : IOK WB AD SR FW TB md_X8_putOn 131 (.iload 11, 0, 0, 0, []) := io_plain (by decide +kernel) rfl
theorem r_X8_putOn_133 : IOK WB AD SR FW TB md_X8_putOn 133 (.iload 6, 0, 0, 0, []) := io_plain (by decide +kernel) rfl
theorem r_X8_putOn_135 : IOK WB AD SR FW TB md_X8_putOn 135 (.if_icmp .ne 7, 0, 0, 0, []) := io_plain (by decide +kernel) rfl
theorem r_X8_putOn_142 : IOK WB AD SR FW TB md_X8_putOn 142 (.iconst 1, 0, 0, 0, []) := io_plain (by decide +kernel) rfl
theorem r_X8_putOn_143 : IOK WB AD SR FW TB md_X8_putOn 143 (.istore 13, 0, 0, 0, []) := io_plain (by decide +kernel) rfl
theorem r_X8_putOn_145 : IOK WB AD SR FW TB md_X8_putOn 145 (.iload 10, 0, 0, 0, []) := io_plain (by decide +kernel) rfl
theorem r_X8_putOn_147 : IOK WB AD SR FW TB md_X8_putOn 147 (.iload 12, 0, 0, 0, []) := io_plain (by decide +kernel) rfl
theorem r_X8_putOn_149 : IOK WB AD SR FW TB md_X8_putOn 149 (.ifCond .eq 7, 0, 0, 0, []) := io_plain (by decide +kernel) rfl
theorem r_X8_putOn_156 : IOK WB AD SR FW TB md_X8_putOn 156 (.iconst 0, 0, 0, 0, []) := io_plain (by decide +kernel) rfl
theorem r_X8_putOn_157 : IOK WB AD SR FW TB md_X8_putOn 157 (.iadd, 0, 0, 0, []) := io_plain (by decide +kernel) rfl
theorem r_X8_putOn_158 : IOK WB AD SR FW TB md_X8_putOn 158 (.istore 10, 0, 0, 0, []) := io_plain (by decide +kernel) rfl
theorem r_X8_putOn_160 : IOK WB AD SR FW TB md_X8_putOn 160 (.iconst 0, 0, 0, 0, []) := io_plain (by decide +kernel) rfl
theorem r_X8_putOn_161 : IOK WB AD SR FW TB md_X8_putOn 161 (.istore 14, 0, 0, 0, []) := io_plain (by decide +kernel) rfl
theorem r_X8_putOn_163 : IOK WB AD SR FW TB md_X8_putOn 163 (.iload 14, 0, 0, 0, []) := io_plain (by decide +kernel) rfl
theorem r_X8_putOn_165 : IOK WB AD SR FW TB md_X8_putOn 165 (.iload 13, 0, 0, 0, []) := io_plain (by decide +kernel) rfl
theorem r_X8_putOn_167 : IOK WB AD SR FW TB md_X8_putOn 167 (.if_icmp .ge 129, 0, 0, 0, []) := io_plain (by decide +kernel) rfl
theorem r_X8_putOn_170 : IOK WB AD SR FW TB md_X8_putOn 170 (.iload 8, 0, 0, 0, []) := io_plain (by decide +kernel) rfl
theorem r_X8_putOn_172 : IOK WB AD SR FW TB md_X8_putOn 172 (.iconst 5, 0, 0, 0, []) := io_plain (by decide +kernel) rfl
theorem r_X8_putOn_173 : IOK WB AD SR FW TB md_X8_putOn 173 (.if_icmp .lt 5, 0, 0, 0, []) := io_plain (by decide +kernel) rfl
theorem r_X8_putOn_178 : IOK WB AD SR FW TB md_X8_putOn 178 (.iload 8, 0, 0, 0, []) := io_plain (by decide +kernel) rfl
theorem r_X8_putOn_180 : IOK WB AD SR FW TB md_X8_putOn 180 (.istore 15, 0, 0, 0, []) := io_plain (by decide +kernel) rfl
theorem r_X8_putOn_182 : IOK WB AD SR FW TB md_X8_putOn 182 (.iload 15, 0, 0, 0, []) := io_plain (by decide +kernel) rfl
theorem r_X8_putOn_184 : IOK WB AD SR FW TB md_X8_putOn 184 (.ifCond .le 69, 0, 0, 0, []) := io_plain (by decide +kernel) rfl
theorem r_X8_putOn_253 : IOK WB AD SR FW TB md_X8_putOn 253 (.aload_n 0, 0, 0, 0, []) := io_plain (by decide +kernel) rfl
theorem r_X8_putOn_254 : IOK WB AD SR FW TB md_X8_putOn 254 (.getfield 22, 9, 5, 2, []) := io_get (by decide +kernel) fo_RX8_22
theorem r_X8_putOn_257 : IOK WB AD SR FW TB md_X8_putOn 257 (.iload 15, 0, 0, 0, []) := io_plain (by decide +kernel) rfl
theorem r_X8_putOn_259 : IOK WB AD SR FW TB md_X8_putOn 259 (.iload 10, 0, 0, 0, []) := io_plain (by decide +kernel) rfl
theorem r_X8_putOn_261 : IOK WB AD SR FW TB md_X8_putOn 261 (.iastore, 0, 0, 0, []) := io_plain (by decide +kernel) rfl
theorem r_X8_putOn_262 : IOK WB AD SR FW TB md_X8_putOn 262 (.aload_n 0, 0, 0, 0, []) := io_plain (by decide +kernel) rfl
theorem r_X8_putOn_263 : IOK WB AD SR FW TB md_X8_putOn 263 (.iload 10, 0, 0, 0, []) := io_plain (by decide +kernel) rfl
theorem r_X8_putOn_265 : IOK WB AD SR FW TB md_X8_putOn 265 (.invokevirtual 57, 1, 9, 0, []) := io_virt (by decide +kernel) tb_X8_end (Or.inl (wb_3 170 rfl rfl)) in_X8_end se_X8_end ⟨_, rfl, rfl⟩ pr_X8_end (by decide)
theorem r_X8_putOn_268 : IOK WB AD SR FW TB md_X8_putOn 268 (.istore 10, 0, 0, 0, []) := io_plain (by decide +kernel) rfl
theorem r_X8_putOn_270 : IOK WB AD SR FW TB md_X8_putOn 270 (.aload_n 0, 0, 0, 0, []) := io_plain (by decide +kernel) rfl
theorem r_X8_putOn_271 : IOK WB AD SR FW TB md_X8_putOn 271 (.getfield 25, 9, 6, 2, []) := io_get (by decide +kernel) fo_RX8_25
theorem r_X8_putOn_274 : IOK WB AD SR FW TB md_X8_putOn 274 (.iload 15, 0, 0, 0, []) := io_plain (by decide +kernel) rfl
theorem r_X8_putOn_276 : IOK WB AD SR FW TB md_X8_putOn 276 (.iload 10, 0, 0, 0, []) := io_plain (by decide +kernel) rfl
theorem r_X8_putOn_278 : IOK WB AD SR FW TB md_X8_putOn 278 (.aload_n 0, 0, 0, 0, []) := io_plain (by decide +kernel) rfl
theorem r_X8_putOn_279 : IOK WB AD SR FW TB md_X8_putOn 279 (.getfield 22, 9, 5, 2, []) := io_get (by decide +kernel) fo_RX8_22
theorem r_X8_putOn_282 : IOK WB AD SR FW TB md_X8_putOn 282 (.iload 15, 0, 0, 0, []) := io_plain (by decide +kernel) rfl
theorem r_X8_putOn_284 : IOK WB AD SR FW TB md_X8_putOn 284 (.iaload, 0, 0, 0, []) := io_plain (by decide +kernel) rfl
theorem r_X8_putOn_285 : IOK WB AD SR FW TB md_X8_putOn 285 (.isub, 0, 0, 0, []) := io_plain (by decide +kernel) rfl
theorem r_X8_putOn_286 : IOK WB AD SR FW TB md_X8_putOn 286 (.iastore, 0, 0, 0, []) := io_plain (by decide +kernel) rfl
theorem r_X8_putOn_287 : IOK WB AD SR FW TB md_X8_putOn 287 (.iinc 8 1, 0, 0, 0, []) := io_plain (by decide +kernel) rfl
theorem r_X8_putOn_290 : IOK WB AD SR FW TB md_X8_putOn 290 (.iinc 14 1, 0, 0, 0, []) := io_plain (by decide +kernel) rfl
theorem r_X8_putOn_293 : IOK WB AD SR FW TB md_X8_putOn 293 (.goto (-130), 0, 0, 0, []) := io_plain (by decide +kernel) rfl
theorem r_X8_putOn_296 : IOK WB AD SR FW TB md_X8_putOn 296 (.iinc 9 1, 0, 0, 0, []) := io_plain (by decide +kernel) rfl
theorem r_X8_putOn_299 : IOK WB AD SR FW TB md_X8_putOn 299 (.goto (-229), 0, 0, 0, []) := io_plain (by decide +kernel) rfl
theorem r_X8_putOn_302 : IOK WB AD SR FW TB md_X8_putOn 302 (.iload 8, 0, 0, 0, []) := io_plain (by decide +kernel) rfl
theorem r_X8_putOn_304 : IOK WB AD SR FW TB md_X8_putOn 304 (.iconst 1, 0, 0, 0, []) := io_plain (by decide +kernel) rfl
theorem r_X8_putOn_305 : IOK WB AD SR FW TB md_X8_putOn 305 (.if_icmp .ne 15, 0, 0, 0, []) := io_plain (by decide +kernel) rfl
theorem r_X8_putOn_308 : IOK WB AD SR FW TB md_X8_putOn 308 (.iload 4, 0, 0, 0, []) := io_plain (by decide +kernel) rfl
theorem r_X8_putOn_310 : IOK WB AD SR FW TB md_X8_putOn 310 (.ifCond .eq 10, 0, 0, 0, []) := io_plain (by decide +kernel) rfl
theorem r_X8_putOn_320 : IOK WB AD SR FW TB md_X8_putOn 320 (.aload_n 0, 0, 0, 0, []) := io_plain (by decide +kernel) rfl
theorem r_X8_putOn_321 : IOK WB AD SR FW TB md_X8_putOn 321 (.iload 8, 0, 0, 0, []) := io_plain (by decide +kernel) rfl
theorem r_X8_putOn_323 : IOK WB AD SR FW TB md_X8_putOn 323 (.ifCond .ne 13, 0, 0, 0, []) := io_plain (by decide +kernel) rfl
theorem r_X8_putOn_326 : IOK WB AD SR FW TB md_X8_putOn 326 (.iload 4, 0, 0, 0, []) := io_plain (by decide +kernel) rfl
theorem r_X8_putOn_328 : IOK WB AD SR FW TB md_X8_putOn 328 (.ifCond .eq 8, 0, 0, 0, []) := io_plain (by decide +kernel) rfl
theorem r_X8_putOn_336 : IOK WB AD SR FW TB md_X8_putOn 336 (.bipush 32, 0, 0, 0, []) := io_plain (by decide +kernel) rfl
theorem r_X8_putOn_338 : IOK WB AD SR FW TB md_X8_putOn 338 (.iload_n 1, 0, 0, 0, []) := io_plain (by decide +kernel) rfl
theorem r_X8_putOn_339 : IOK WB AD SR FW TB md_X8_putOn 339 (.bipush 8, 0, 0, 0, []) := io_plain (by decide +kernel) rfl
theorem r_X8_putOn_341 : IOK WB AD SR FW TB md_X8_putOn 341 (.imul, 0, 0, 0, []) := io_plain (by decide +kernel) rfl
theorem r_X8_putOn_342 : IOK WB AD SR FW TB md_X8_putOn 342 (.iadd, 0, 0, 0, []) := io_plain (by decide +kernel) rfl
theorem r_X8_putOn_343 : IOK WB AD SR FW TB md_X8_putOn 343 (.iload 8, 0, 0, 0, []) := io_plain (by decide +kernel) rfl
theorem r_X8_putOn_345 : IOK WB AD SR FW TB md_X8_putOn 345 (.iadd, 0, 0, 0, []) := io_plain (by decide +kernel) rfl
theorem r_X8_putOn_346 : IOK WB AD SR FW TB md_X8_putOn 346 (.iload 8, 0, 0, 0, []) := io_plain (by decide +kernel) rfl
theorem r_X8_putOn_348 : IOK WB AD SR FW TB md_X8_putOn 348 (.invokevirtual 104, 3, 9, 0, []) := io_virt (by decide +kernel) tb_X8_write (Or.inl (wb_3 180 rfl rfl)) in_X8_write se_X8_write ⟨_, rfl, rfl⟩ pr_X8_write (by decide)
theorem r_X8_putOn_351 : IOK WB AD SR FW TB md_X8_putOn 351 (.ireturn, 0, 0, 0, []) := io_plain (by decide +kernel) rfl
set_option maxRecDepth 100000 in
theorem ok_X8_putOn_0 : ∀ q ∈ tl_X8_putOn_0, IOK WB AD SR FW TB md_X8_putOn q.1 q.2 := List.forall_mem_cons.mpr ⟨r_X8_putOn_0, List.forall_mem_cons.mpr ⟨r_X8_putOn_1, List.forall_mem_cons.mpr ⟨r_X8_putOn_4, List.forall_mem_cons.mpr ⟨r_X8_putOn_7, List.forall_mem_cons.mpr ⟨r_X8_putOn_8, List.forall_mem_cons.mpr ⟨r_X8_putOn_9, List.forall_mem_cons.mpr ⟨r_X8_putOn_10, List.forall_mem_cons.mpr ⟨r_X8_putOn_11, List.forall_mem_cons.mpr ⟨r_X8_putOn_12, List.forall_mem_cons.mpr ⟨r_X8_putOn_19, List.forall_mem_cons.mpr ⟨r_X8_putOn_20, List.forall_mem_cons.mpr ⟨r_X8_putOn_22, List.forall_mem_cons.mpr ⟨r_X8_putOn_23, List.forall_mem_cons.mpr ⟨r_X8_putOn_26, List.forall_mem_cons.mpr ⟨r_X8_putOn_29, List.forall_mem_cons.mpr ⟨r_X8_putOn_30, List.forall_mem_cons.mpr ⟨r_X8_putOn_31, List.forall_mem_cons.mpr ⟨r_X8_putOn_33, List.forall_mem_cons.mpr ⟨r_X8_putOn_35, List.forall_mem_cons.mpr ⟨r_X8_putOn_36, List.forall_mem_cons.mpr ⟨r_X8_putOn_39, List.forall_mem_cons.mpr ⟨r_X8_putOn_40, List.forall_mem_cons.mpr ⟨r_X8_putOn_51, List.forall_mem_cons.mpr ⟨r_X8_putOn_53, List.forall_mem_cons.mpr ⟨r_X8_putOn_54, List.forall_mem_cons.mpr ⟨r_X8_putOn_57, List.forall_mem_cons.mpr ⟨r_X8_putOn_59, List.forall_mem_cons.mpr ⟨r_X8_putOn_60, List.forall_mem_cons.mpr ⟨r_X8_putOn_62, List.forall_mem_cons.mpr ⟨r_X8_putOn_63, List.forall_mem_cons.mpr ⟨r_X8_putOn_64, List.forall_mem_cons.mpr ⟨r_X8_putOn_67, List.forall_mem_cons.mpr ⟨r_X8_putOn_68, List.forall_mem_cons.mpr ⟨r_X8_putOn_70, List.forall_mem_cons.mpr ⟨r_X8_putOn_72, List.forall_mem_cons.mpr ⟨r_X8_putOn_74, List.forall_mem_cons.mpr ⟨r_X8_putOn_77, List.forall_mem_cons.mpr ⟨r_X8_putOn_78, List.forall_mem_cons.mpr ⟨r_X8_putOn_81, List.forall_mem_cons.mpr ⟨r_X8_putOn_83, fun _ h => absurd h List.not_mem_nil⟩⟩⟩⟩⟩⟩⟩⟩⟩⟩⟩⟩⟩⟩⟩⟩⟩⟩⟩⟩⟩⟩⟩⟩⟩⟩⟩⟩⟩⟩⟩⟩⟩⟩⟩⟩⟩⟩⟩⟩
set_option maxRecDepth 100000 in
theorem tq_X8_putOn_0 : tf_X8_putOn_0 = tl_X8_putOn_0.map (fun q => (q.1, stepOf NPf md_X8_putOn q.2)) := rfl
set_option maxRecDepth 100000 in
theorem ok_X8_putOn_1 : ∀ q ∈ tl_X8_putOn_1, IOK WB AD SR FW TB md_X8_putOn q.1 q.2 := List.forall_mem_cons.mpr ⟨r_X8_putOn_84, List.forall_mem_cons.mpr ⟨r_X8_putOn_86, List.forall_mem_cons.mpr ⟨r_X8_putOn_87, List.forall_mem_cons.mpr ⟨r_X8_putOn_90, List.forall_mem_cons.mpr ⟨r_X8_putOn_92, List.forall_mem_cons.mpr ⟨r_X8_putOn_93, List.forall_mem_cons.mpr ⟨r_X8_putOn_95, List.forall_mem_cons.mpr ⟨r_X8_putOn_97, List.forall_mem_cons.mpr ⟨r_X8_putOn_115, List.forall_mem_cons.mpr ⟨r_X8_putOn_116, List.forall_mem_cons.mpr ⟨r_X8_putOn_118, List.forall_mem_cons.mpr ⟨r_X8_putOn_120, List.forall_mem_cons.mpr ⟨r_X8_putOn_131, List.forall_mem_cons.mpr ⟨r_X8_putOn_133, List.forall_mem_cons.mpr ⟨r_X8_putOn_135, List.forall_mem_cons.mpr ⟨r_X8_putOn_142, List.forall_mem_cons.mpr ⟨r_X8_putOn_143, List.forall_mem_cons.mpr ⟨r_X8_putOn_145, List.forall_mem_cons.mpr ⟨r_X8_putOn_147, List.forall_mem_cons.mpr ⟨r_X8_putOn_149, List.forall_mem_cons.mpr ⟨r_X8_putOn_156, List.forall_mem_cons.mpr ⟨r_X8_putOn_157, List.forall_mem_cons.mpr ⟨r_X8_putOn_158, List.forall_mem_cons.mpr ⟨r_X8_putOn_160, List.forall_mem_cons.mpr ⟨r_X8_putOn_161, List.forall_mem_cons.mpr ⟨r_X8_putOn_163, List.forall_mem_cons.mpr ⟨r_X8_putOn_165, List.forall_mem_cons.mpr ⟨r_X8_putOn_167, List.forall_mem_cons.mpr ⟨r_X8_putOn_170, List.forall_mem_cons.mpr ⟨r_X8_putOn_172, List.forall_mem_cons.mpr ⟨r_X8_putOn_173, List.forall_mem_cons.mpr ⟨r_X8_putOn_178, List.forall_mem_cons.mpr ⟨r_X8_putOn_180, List.forall_mem_cons.mpr ⟨r_X8_putOn_182, List.forall_mem_cons.mpr ⟨r_X8_putOn_184, List.forall_mem_cons.mpr ⟨r_X8_putOn_253, List.forall_mem_cons.mpr ⟨r_X8_putOn_254, List.forall_mem_cons.mpr ⟨r_X8_putOn_257, List.forall_mem_cons.mpr ⟨r_X8_putOn_259, List.forall_mem_cons.mpr ⟨r_X8_putOn_261, fun _ h => absurd h List.not_mem_nil⟩⟩⟩⟩⟩⟩⟩⟩⟩⟩⟩⟩⟩⟩⟩⟩⟩⟩⟩⟩⟩⟩⟩⟩⟩⟩⟩⟩⟩⟩⟩⟩⟩⟩⟩⟩⟩⟩⟩⟩
set_option maxRecDepth 100000 in
theorem tq_X8_putOn_1 : tf_X8_putOn_1 = tl_X8_putOn_1.map (fun q => (q.1, stepOf NPf md_X8_putOn q.2)) := rfl
set_option maxRecDepth 100000 in
theorem ok_X8_putOn_2 : ∀ q ∈ tl_X8_putOn_2, IOK WB AD SR FW TB md_X8_putOn q.1 q.2 := List.forall_mem_cons.mpr ⟨r_X8_putOn_262, List.forall_mem_cons.mpr ⟨r_X8_putOn_263, List.forall_mem_cons.mpr ⟨r_X8_putOn_265, List.forall_mem_cons.mpr ⟨r_X8_putOn_268, List.forall_mem_cons.mpr ⟨r_X8_putOn_270, List.forall_mem_cons.mpr ⟨r_X8_putOn_271, List.forall_mem_cons.mpr ⟨r_X8_putOn_274, List.forall_mem_cons.mpr ⟨r_X8_putOn_276, List.forall_mem_cons.mpr ⟨r_X8_putOn_278, List.forall_mem_cons.mpr ⟨r_X8_putOn_279, List.forall_mem_cons.mpr ⟨r_X8_putOn_282, List.forall_mem_cons.mpr ⟨r_X8_putOn_284, List.forall_mem_cons.mpr ⟨r_X8_putOn_285, List.forall_mem_cons.mpr ⟨r_X8_putOn_286, List.forall_mem_cons.mpr ⟨r_X8_putOn_287, List.forall_mem_cons.mpr ⟨r_X8_putOn_290, List.forall_mem_cons.mpr ⟨r_X8_putOn_293, List.forall_mem_cons.mpr ⟨r_X8_putOn_296, List.forall_mem_cons.mpr ⟨r_X8_putOn_299, List.forall_mem_cons.mpr ⟨r_X8_putOn_302, List.forall_mem_cons.mpr ⟨r_X8_putOn_304, List.forall_mem_cons.mpr ⟨r_X8_putOn_305, List.forall_mem_cons.mpr ⟨r_X8_putOn_308, List.forall_mem_cons.mpr ⟨r_X8_putOn_310, List.forall_mem_cons.mpr ⟨r_X8_putOn_320, List.forall_mem_cons.mpr ⟨r_X8_putOn_321, List.forall_mem_cons.mpr ⟨r_X8_putOn_323, List.forall_mem_cons.mpr ⟨r_X8_putOn_326, List.forall_mem_cons.mpr ⟨r_X8_putOn_328, List.forall_mem_cons.mpr ⟨r_X8_putOn_336, List.forall_mem_cons.mpr ⟨r_X8_putOn_338, List.forall_mem_cons.mpr ⟨r_X8_putOn_339, List.forall_mem_cons.mpr ⟨r_X8_putOn_341, List.forall_mem_cons.mpr ⟨r_X8_putOn_342, List.forall_mem_cons.mpr ⟨r_X8_putOn_343, List.forall_mem_cons.mpr ⟨r_X8_putOn_345, List.forall_mem_cons.mpr ⟨r_X8_putOn_346, List.forall_mem_cons.mpr ⟨r_X8_putOn_348, List.forall_mem_cons.mpr ⟨r_X8_putOn_351, fun _ h => absurd h List.not_mem_nil⟩⟩⟩⟩⟩⟩⟩⟩⟩⟩⟩⟩⟩⟩⟩⟩⟩⟩⟩⟩⟩⟩⟩⟩⟩⟩⟩⟩⟩⟩⟩⟩⟩⟩⟩⟩⟩⟩⟩
set_option maxRecDepth 100000 in
theorem tq_X8_putOn_2 : tf_X8_putOn_2 = tl_X8_putOn_2.map (fun q => (q.1, stepOf NPf md_X8_putOn q.2)) := rfl
theorem ro_X8_putOn : RowsOK (md_X8_putOn, tl_X8_putOn) tf_X8_putOn := rows_app ⟨tq_X8_putOn_0, ok_X8_putOn_0⟩ (rows_app ⟨tq_X8_putOn_1, ok_X8_putOn_1⟩ (⟨tq_X8_putOn_2, ok_X8_putOn_2⟩))
theorem r_X8_write_0 : IOK WB AD SR FW TB md_X8_write 0 (.aload_n 0, 0, 0, 0, []) := io_plain (by decide +kernel) rfl
theorem r_X8_write_1 : IOK WB AD SR FW TB md_X8_write 1 (.getfield 15, 9, 2, 0, []) := io_get (by decide +kernel) fo_RX8_15
theorem r_X8_write_4 : IOK WB AD SR FW TB md_X8_write 4 (.istore_n 3, 0, 0, 0, []) := io_plain (by decide +kernel) rfl
theorem r_X8_write_5 : IOK WB AD SR FW TB md_X8_write 5 (.iload_n 3, 0, 0, 0, []) := io_plain (by decide +kernel) rfl
theorem r_X8_write_6 : IOK WB AD SR FW TB md_X8_write 6 (.sipush 27460, 0, 0, 0, []) := io_plain (by decide +kernel) rfl
theorem r_X8_write_9 : IOK WB AD SR FW TB md_X8_write 9 (.if_icmp .lt 5, 0, 0, 0, []) := io_plain (by decide +kernel) rfl
theorem r_X8_write_14 : IOK WB AD SR FW TB md_X8_write 14 (.aload_n 0, 0, 0, 0, []) := io_plain (by decide +kernel) rfl
theorem r_X8_write_15 : IOK WB AD SR FW TB md_X8_write 15 (.getfield 9, 9, 1, 2, []) := io_get (by decide +kernel) fo_RX8_9
theorem r_X8_write_18 : IOK WB AD SR FW TB md_X8_write 18 (.iload_n 3, 0, 0, 0, []) := io_plain (by decide +kernel) rfl
theorem r_X8_write_19 : IOK WB AD SR FW TB md_X8_write 19 (.iload_n 1, 0, 0, 0, []) := io_plain (by decide +kernel) rfl
theorem r_X8_write_20 : IOK WB AD SR FW TB md_X8_write 20 (.iastore, 0, 0, 0, []) := io_plain (by decide +kernel) rfl
theorem r_X8_write_21 : IOK WB AD SR FW TB md_X8_write 21 (.iload_n 3, 0, 0, 0, []) := io_plain (by decide +kernel) rfl
theorem r_X8_write_22 : IOK WB AD SR FW TB md_X8_write 22 (.iconst 1, 0, 0, 0, []) := io_plain (by decide +kernel) rfl
theorem r_X8_write_23 : IOK WB AD SR FW TB md_X8_write 23 (.iadd, 0, 0, 0, []) := io_plain (by decide +kernel) rfl
theorem r_X8_write_24 : IOK WB AD SR FW TB md_X8_write 24 (.istore 4, 0, 0, 0, []) := io_plain (by decide +kernel) rfl
theorem r_X8_write_26 : IOK WB AD SR FW TB md_X8_write 26 (.iconst 0, 0, 0, 0, []) := io_plain (by decide +kernel) rfl
theorem r_X8_write_27 : IOK WB AD SR FW TB md_X8_write 27 (.istore 5, 0, 0, 0, []) := io_plain (by decide +kernel) rfl
theorem r_X8_write_29 : IOK WB AD SR FW TB md_X8_write 29 (.iload 5, 0, 0, 0, []) := io_plain (by decide +kernel) rfl
theorem r_X8_write_31 : IOK WB AD SR FW TB md_X8_write 31 (.iload_n 2, 0, 0, 0, []) := io_plain (by decide +kernel) rfl
theorem r_X8_write_32 : IOK WB AD SR FW TB md_X8_write 32 (.if_icmp .ge 67, 0, 0, 0, []) := io_plain (by decide +kernel) rfl
theorem r_X8_write_35 : IOK WB AD SR FW TB md_X8_write 35 (.iload 4, 0, 0, 0, []) := io_plain (by decide +kernel) rfl
theorem r_X8_write_37 : IOK WB AD SR FW TB md_X8_write 37 (.iload_n 3, 0, 0, 0, []) := io_plain (by decide +kernel) rfl
theorem r_X8_write_38 : IOK WB AD SR FW TB md_X8_write 38 (.isub, 0, 0, 0, []) := io_plain (by decide +kernel) rfl
theorem r_X8_write_39 : IOK WB AD SR FW TB md_X8_write 39 (.aload_n 0, 0, 0, 0, []) := io_plain (by decide +kernel) rfl
theorem r_X8_write_40 : IOK WB AD SR FW TB md_X8_write 40 (.getfield 25, 9, 6, 2, []) := io_get (by decide +kernel) fo_RX8_25
theorem r_X8_write_43 : IOK WB AD SR FW TB md_X8_write 43 (.iload 5, 0, 0, 0, []) := io_plain (by decide +kernel) rfl
theorem r_X8_write_45 : IOK WB AD SR FW TB md_X8_write 45 (.iaload, 0, 0, 0, []) := io_plain (by decide +kernel) rfl
theorem r_X8_write_46 : IOK WB AD SR FW TB md_X8_write 46 (.iadd, 0, 0, 0, []) := io_plain (by decide +kernel) rfl
theorem r_X8_write_47 : IOK WB AD SR FW TB md_X8_write 47 (.bipush 20, 0, 0, 0, []) := io_plain (by decide +kernel) rfl
theorem r_X8_write_49 : IOK WB AD SR FW TB md_X8_write 49 (.if_icmp .le 5, 0, 0, 0, []) := io_plain (by decide +kernel) rfl
theorem r_X8_write_54 : IOK WB AD SR FW TB md_X8_write 54 (.aload_n 0, 0, 0, 0, []) := io_plain (by decide +kernel) rfl
theorem r_X8_write_55 : IOK WB AD SR FW TB md_X8_write 55 (.getfield 9, 9, 1, 2, []) := io_get (by decide +kernel) fo_RX8_9
theorem r_X8_write_58 : IOK WB AD SR FW TB md_X8_write 58 (.aload_n 0, 0, 0, 0, []) := io_plain (by decide +kernel) rfl
theorem r_X8_write_59 : IOK WB AD SR FW TB md_X8_write 59 (.getfield 22, 9, 5, 2, []) := io_get (by decide +kernel) fo_RX8_22
theorem r_X8_write_62 : IOK WB AD SR FW TB md_X8_write 62 (.iload 5, 0, 0, 0, []) := io_plain (by decide +kernel) rfl
theorem r_X8_write_64 : IOK WB AD SR FW TB md_X8_write 64 (.iaload, 0, 0, 0, []) := io_plain (by decide +kernel) rfl
theorem r_X8_write_65 : IOK WB AD SR FW TB md_X8_write 65 (.aload_n 0, 0, 0, 0, []) := io_plain (by decide +kernel) rfl
theorem r_X8_write_66 : IOK WB AD SR FW TB md_X8_write 66 (.getfield 9, 9, 1, 2, []) := io_get (by decide +kernel) fo_RX8_9
theorem r_X8_write_69 : IOK WB AD SR FW TB md_X8_write 69 (.iload 4, 0, 0, 0, []) := io_plain (by decide +kernel) rfl
theorem r_X8_write_71 : IOK WB AD SR FW TB md_X8_write 71 (.aload_n 0, 0, 0, 0, []) := io_plain (by decide +kernel) rfl
theorem r_X8_write_72 : IOK WB AD SR FW TB md_X8_write 72 (.getfield 25, 9, 6, 2, []) := io_get (by decide +kernel) fo_RX8_25
theorem r_X8_write_75 : IOK WB AD SR FW TB md_X8_write 75 (.iload 5, 0, 0, 0, []) := io_plain (by decide +kernel) rfl
theorem r_X8_write_77 : IOK WB AD SR FW TB md_X8_write 77 (.iaload, 0, 0, 0, []) := io_plain (by decide +kernel) rfl
theorem r_X8_write_78 : IOK WB AD SR FW TB md_X8_write 78 (.invokestatic 61, 1000, 0, 0, []) := io_copy (by decide +kernel) (wb_3 184 rfl rfl) cp_1 cp_2 cp_3
theorem r_X8_write_81 : IOK WB AD SR FW TB md_X8_write 81 (.iload 4, 0, 0, 0, []) := io_plain (by decide +kernel) rfl
theorem r_X8_write_83 : IOK WB AD SR FW TB md_X8_write 83 (.aload_n 0, 0, 0, 0, []) := io_plain (by decide +kernel) rfl
theorem r_X8_write_84 : IOK WB AD SR FW TB md_X8_write 84 (.getfield 25, 9, 6, 2, []) := io_get (by decide +kernel) fo_RX8_25
theorem r_X8_write_87 : IOK WB AD SR FW TB md_X8_write 87 (.iload 5, 0, 0, 0, []) := io_plain (by decide +kernel) rfl
theorem r_X8_write_89 : IOK WB AD SR FW TB md_X8_write 89 (.iaload, 0, 0, 0, []) := io_plain (by decide +kernel) rfl
theorem r_X8_write_90 : IOK WB AD SR FW TB md_X8_write 90 (.iadd, 0, 0, 0, []) := io_plain (by decide +kernel) rfl
theorem r_X8_write_91 : IOK WB AD SR FW TB md_X8_write 91 (.istore 4, 0, 0, 0, []) := io_plain (by decide +kernel) rfl
theorem r_X8_write_93 : IOK WB AD SR FW TB md_X8_write 93 (.iinc 5 1, 0, 0, 0, []) := io_plain (by decide +kernel) rfl
theorem r_X8_write_96 : IOK WB AD SR FW TB md_X8_write 96 (.goto (-67), 0, 0, 0, []) := io_plain (by decide +kernel) rfl
theorem r_X8_write_99 : IOK WB AD SR FW TB md_X8_write 99 (.aload_n 0, 0, 0, 0, []) := io_plain (by decide +kernel) rfl
theorem r_X8_write_100 : IOK WB AD SR FW TB md_X8_write 100 (.iload 4, 0, 0, 0, []) := io_plain (by decide +kernel) rfl
theorem r_X8_write_102 : IOK WB AD SR FW TB md_X8_write 102 (.putfield 15, 9, 2, 0, []) := io_put (by decide +kernel) fo_RX8_15 po_RX8_0_9_2_0
theorem r_X8_write_105 : IOK WB AD SR FW TB md_X8_write 105 (.iload_n 3, 0, 0, 0, []) := io_plain (by decide +kernel) rfl
theorem r_X8_write_106 : IOK WB AD SR FW TB md_X8_write 106 (.ireturn, 0, 0, 0, []) := io_plain (by decide +kernel) rfl
set_option maxRecDepth 100000 in
theorem ok_X8_write_0 : ∀ q ∈ tl_X8_write_0, IOK WB AD SR FW TB md_X8_write q.1 q.2 := List.forall_mem_cons.mpr ⟨r_X8_write_0, List.forall_mem_cons.mpr ⟨r_X8_write_1, List.forall_mem_cons.mpr ⟨r_X8_write_4, List.forall_mem_cons.mpr ⟨r_X8_write_5, List.forall_mem_cons.mpr ⟨r_X8_write_6, List.forall_mem_cons.mpr ⟨r_X8_write_9, List.forall_mem_cons.mpr ⟨r_X8_write_14, List.forall_mem_cons.mpr ⟨r_X8_write_15, List.forall_mem_cons.mpr ⟨r_X8_write_18, List.forall_mem_cons.mpr ⟨r_X8_write_19, List.forall_mem_cons.mpr ⟨r_X8_write_20, List.forall_mem_cons.mpr ⟨r_X8_write_21, List.forall_mem_cons.mpr ⟨r_X8_write_22, List.forall_mem_cons.mpr ⟨r_X8_write_23, List.forall_mem_cons.mpr ⟨r_X8_write_24, List.forall_mem_cons.mpr ⟨r_X8_write_26, List.forall_mem_cons.mpr ⟨r_X8_write_27, List.forall_mem_cons.mpr ⟨r_X8_write_29, List.forall_mem_cons.mpr ⟨r_X8_write_31, List.forall_mem_cons.mpr ⟨r_X8_write_32, List.forall_mem_cons.mpr ⟨r_X8_write_35, List.forall_mem_cons.mpr ⟨r_X8_write_37, List.forall_mem_cons.mpr ⟨r_X8_write_38, List.forall_mem_cons.mpr ⟨r_X8_write_39, List.forall_mem_cons.mpr ⟨r_X8_write_40, List.forall_mem_cons.mpr ⟨r_X8_write_43, List.forall_mem_cons.mpr ⟨r_X8_write_45, List.forall_mem_cons.mpr ⟨r_X8_write_46, List.forall_mem_cons.mpr ⟨r_X8_write_47, List.forall_mem_cons.mpr ⟨r_X8_write_49, List.forall_mem_cons.mpr ⟨r_X8_write_54, List.forall_mem_cons.mpr ⟨r_X8_write_55, List.forall_mem_cons.mpr ⟨r_X8_write_58, List.forall_mem_cons.mpr ⟨r_X8_write_59, List.forall_mem_cons.mpr ⟨r_X8_write_62, List.forall_mem_cons.mpr ⟨r_X8_write_64, List.forall_mem_cons.mpr ⟨r_X8_write_65, List.forall_mem_cons.mpr ⟨r_X8_write_66, List.forall_mem_cons.mpr ⟨r_X8_write_69, List.forall_mem_cons.mpr ⟨r_X8_write_71, fun _ h => absurd h List.not_mem_nil⟩⟩⟩⟩⟩⟩⟩⟩⟩⟩⟩⟩⟩⟩⟩⟩⟩⟩⟩⟩⟩⟩⟩⟩⟩⟩⟩⟩⟩⟩⟩⟩⟩⟩⟩⟩⟩⟩⟩⟩
set_option maxRecDepth 100000 in
theorem tq_X8_write_0 : tf_X8_write_0 = tl_X8_write_0.map (fun q => (q.1, stepOf NPf md_X8_write q.2)) := rfl
set_option maxRecDepth 100000 in
theorem ok_X8_write_1 : ∀ q ∈ tl_X8_write_1, IOK WB AD SR FW TB md_X8_write q.1 q.2 := List.forall_mem_cons.mpr ⟨r_X8_write_72, List.forall_mem_cons.mpr ⟨r_X8_write_75, List.forall_mem_cons.mpr ⟨r_X8_write_77, List.forall_mem_cons.mpr ⟨r_X8_write_78, List.forall_mem_cons.mpr ⟨r_X8_write_81, List.forall_mem_cons.mpr ⟨r_X8_write_83, List.forall_mem_cons.mpr ⟨r_X8_write_84, List.forall_mem_cons.mpr ⟨r_X8_write_87, List.forall_mem_cons.mpr ⟨r_X8_write_89, List.forall_mem_cons.mpr ⟨r_X8_write_90, List.forall_mem_cons.mpr ⟨r_X8_write_91, List.forall_mem_cons.mpr ⟨r_X8_write_93, List.forall_mem_cons.mpr ⟨r_X8_write_96, List.forall_mem_cons.mpr ⟨r_X8_write_99, List.forall_mem_cons.mpr ⟨r_X8_write_100, List.forall_mem_cons.mpr ⟨r_X8_write_102, List.forall_mem_cons.mpr ⟨r_X8_write_105, List.forall_mem_cons.mpr ⟨r_X8_write_106, fun _ h => absurd h List.not_mem_nil⟩⟩⟩⟩⟩⟩⟩⟩⟩⟩⟩⟩⟩⟩⟩⟩⟩⟩
set_option maxRecDepth 100000 in
theorem tq_X8_write_1 : tf_X8_write_1 = tl_X8_write_1.map (fun q => (q.1, stepOf NPf md_X8_write q.2)) := rfl
theorem ro_X8_write : RowsOK (md_X8_write, tl_X8_write) tf_X8_write := rows_app ⟨tq_X8_write_0, ok_X8_write_0⟩ (⟨tq_X8_write_1, ok_X8_write_1⟩)
theorem r_X8_rebuild_0 : IOK WB AD SR FW TB md_X8_rebuild 0 (.iload_n 1, 0, 0, 0, []) := io_plain (by decide +kernel) rfl
theorem r_X8_rebuild_1 : IOK WB AD SR FW TB md_X8_rebuild 1 (.aload_n 0, 0, 0, 0, []) := io_plain (by decide +kernel) rfl
theorem r_X8_rebuild_2 : IOK WB AD SR FW TB md_X8_rebuild 2 (.getfield 31, 9, 8, 0, []) := io_get (by decide +kernel) fo_RX8_31
theorem r_X8_rebuild_5 : IOK WB AD SR FW TB md_X8_rebuild 5 (.if_icmp .ne 8, 0, 0, 0, []) := io_plain (by decide +kernel) rfl
theorem r_X8_rebuild_13 : IOK WB AD SR FW TB md_X8_rebuild 13 (.aload_n 0, 0, 0, 0, []) := io_plain (by decide +kernel) rfl
theorem r_X8_rebuild_14 : IOK WB AD SR FW TB md_X8_rebuild 14 (.getfield 9, 9, 1, 2, []) := io_get (by decide +kernel) fo_RX8_9
theorem r_X8_rebuild_17 : IOK WB AD SR FW TB md_X8_rebuild 17 (.iload_n 1, 0, 0, 0, []) := io_plain (by decide +kernel) rfl
theorem r_X8_rebuild_18 : IOK WB AD SR FW TB md_X8_rebuild 18 (.iaload, 0, 0, 0, []) := io_plain (by decide +kernel) rfl
theorem r_X8_rebuild_19 : IOK WB AD SR FW TB md_X8_rebuild 19 (.istore_n 2, 0, 0, 0, []) := io_plain (by decide +kernel) rfl
theorem r_X8_rebuild_20 : IOK WB AD SR FW TB md_X8_rebuild 20 (.iload_n 2, 0, 0, 0, []) := io_plain (by decide +kernel) rfl
theorem r_X8_rebuild_21 : IOK WB AD SR FW TB md_X8_rebuild 21 (.bipush 32, 0, 0, 0, []) := io_plain (by decide +kernel) rfl
theorem r_X8_rebuild_23 : IOK WB AD SR FW TB md_X8_rebuild 23 (.if_icmp .ge 24, 0, 0, 0, []) := io_plain (by decide +kernel) rfl
theorem r_X8_rebuild_47 : IOK WB AD SR FW TB md_X8_rebuild 47 (.aload_n 0, 0, 0, 0, []) := io_plain (by decide +kernel) rfl
theorem r_X8_rebuild_48 : IOK WB AD SR FW TB md_X8_rebuild 48 (.getfield 41, 9, 4, 0, []) := io_get (by decide +kernel) fo_RX8_41
theorem r_X8_rebuild_51 : IOK WB AD SR FW TB md_X8_rebuild 51 (.istore_n 3, 0, 0, 0, []) := io_plain (by decide +kernel) rfl
theorem r_X8_rebuild_52 : IOK WB AD SR FW TB md_X8_rebuild 52 (.iload_n 1, 0, 0, 0, []) := io_plain (by decide +kernel) rfl
theorem r_X8_rebuild_53 : IOK WB AD SR FW TB md_X8_rebuild 53 (.iconst 1, 0, 0, 0, []) := io_plain (by decide +kernel) rfl
theorem r_X8_rebuild_54 : IOK WB AD SR FW TB md_X8_rebuild 54 (.iadd, 0, 0, 0, []) := io_plain (by decide +kernel) rfl
theorem r_X8_rebuild_55 : IOK WB AD SR FW TB md_X8_rebuild 55 (.istore 4, 0, 0, 0, []) := io_plain (by decide +kernel) rfl
theorem r_X8_rebuild_57 : IOK WB AD SR FW TB md_X8_rebuild 57 (.iconst 0, 0, 0, 0, []) := io_plain (by decide +kernel) rfl
theorem r_X8_rebuild_58 : IOK WB AD SR FW TB md_X8_rebuild 58 (.istore 5, 0, 0, 0, []) := io_plain (by decide +kernel) rfl
theorem r_X8_rebuild_60 : IOK WB AD SR FW TB md_X8_rebuild 60 (.iload 5, 0, 0, 0, []) := io_plain (by decide +kernel) rfl
theorem r_X8_rebuild_62 : IOK WB AD SR FW TB md_X8_rebuild 62 (.iload_n 2, 0, 0, 0, []) := io_plain (by decide +kernel) rfl
theorem r_X8_rebuild_63 : IOK WB AD SR FW TB md_X8_rebuild 63 (.bipush 8, 0, 0, 0, []) := io_plain (by decide +kernel) rfl
theorem r_X8_rebuild_65 : IOK WB AD SR FW TB md_X8_rebuild 65 (.irem, 0, 0, 0, []) := io_plain (by decide +kernel) rfl
theorem r_X8_rebuild_66 : IOK WB AD SR FW TB md_X8_rebuild 66 (.if_icmp .ge 43, 0, 0, 0, []) := io_plain (by decide +kernel) rfl
theorem r_X8_rebuild_69 : IOK WB AD SR FW TB md_X8_rebuild 69 (.aload_n 0, 0, 0, 0, []) := io_plain (by decide +kernel) rfl
theorem r_X8_rebuild_70 : IOK WB AD SR FW TB md_X8_rebuild 70 (.iload 4, 0, 0, 0, []) := io_plain (by decide +kernel) rfl
theorem r_X8_rebuild_72 : IOK WB AD SR FW TB md_X8_rebuild 72 (.invokevirtual 107, 4, 9, 0, []) := io_virt (by decide +kernel) tb_X8_rebuild (Or.inl (wb_3 165 rfl rfl)) in_X8_rebuild se_X8_rebuild ⟨_, rfl, rfl⟩ pr_X8_rebuild (by decide)
theorem r_X8_rebuild_75 : IOK WB AD SR FW TB md_X8_rebuild 75 (.istore 6, 0, 0, 0, []) := io_plain (by decide +kernel) rfl
theorem r_X8_rebuild_77 : IOK WB AD SR FW TB md_X8_rebuild 77 (.iload 6, 0, 0, 0, []) := io_plain (by decide +kernel) rfl
theorem r_X8_rebuild_79 : IOK WB AD SR FW TB md_X8_rebuild 79 (.ifCond .ge 10, 0, 0, 0, []) := io_plain (by decide +kernel) rfl
theorem r_X8_rebuild_89 : IOK WB AD SR FW TB md_X8_rebuild 89 (.aload_n 0, 0, 0, 0, []) := io_plain (by decide +kernel) rfl
theorem r_X8_rebuild_90 : IOK WB AD SR FW TB md_X8_rebuild 90 (.iload 6, 0, 0, 0, []) := io_plain (by decide +kernel) rfl
theorem r_X8_rebuild_92 : IOK WB AD SR FW TB md_X8_rebuild 92 (.invokevirtual 110, 11, 9, 0, []) := io_virt (by decide +kernel) tb_X8_await (Or.inl (wb_3 166 rfl rfl)) in_X8_await se_X8_await ⟨_, rfl, rfl⟩ pr_X8_await (by decide)
theorem r_X8_rebuild_95 : IOK WB AD SR FW TB md_X8_rebuild 95 (.aload_n 0, 0, 0, 0, []) := io_plain (by decide +kernel) rfl
theorem r_X8_rebuild_96 : IOK WB AD SR FW TB md_X8_rebuild 96 (.iload 4, 0, 0, 0, []) := io_plain (by decide +kernel) rfl
theorem r_X8_rebuild_98 : IOK WB AD SR FW TB md_X8_rebuild 98 (.invokevirtual 57, 1, 9, 0, []) := io_virt (by decide +kernel) tb_X8_end (Or.inl (wb_3 170 rfl rfl)) in_X8_end se_X8_end ⟨_, rfl, rfl⟩ pr_X8_end (by decide)
theorem r_X8_rebuild_101 : IOK WB AD SR FW TB md_X8_rebuild 101 (.istore 4, 0, 0, 0, []) := io_plain (by decide +kernel) rfl
theorem r_X8_rebuild_103 : IOK WB AD SR FW TB md_X8_rebuild 103 (.iinc 5 1, 0, 0, 0, []) := io_plain (by decide +kernel) rfl
theorem r_X8_rebuild_106 : IOK WB AD SR FW TB md_X8_rebuild 106 (.goto (-46), 0, 0, 0, []) := io_plain (by decide +kernel) rfl
theorem r_X8_rebuild_109 : IOK WB AD SR FW TB md_X8_rebuild 109 (.iload_n 2, 0, 0, 0, []) := io_plain (by decide +kernel) rfl
theorem r_X8_rebuild_110 : IOK WB AD SR FW TB md_X8_rebuild 110 (.invokestatic 84, 16, 11, 0, []) := io_stat (by decide +kernel) tb_X10_operatorIn (Or.inr ⟨rfl, rfl, "RuleForge", List.mem_of_getElem? (i := 0) rfl⟩) st_X10_operatorIn pr_X10_operatorIn
theorem r_X8_rebuild_113 : IOK WB AD SR FW TB md_X8_rebuild 113 (.istore 5, 0, 0, 0, []) := io_plain (by decide +kernel) rfl
theorem r_X8_rebuild_115 : IOK WB AD SR FW TB md_X8_rebuild 115 (.aload_n 0, 0, 0, 0, []) := io_plain (by decide +kernel) rfl
theorem r_X8_rebuild_116 : IOK WB AD SR FW TB md_X8_rebuild 116 (.aload_n 0, 0, 0, 0, []) := io_plain (by decide +kernel) rfl
theorem r_X8_rebuild_117 : IOK WB AD SR FW TB md_X8_rebuild 117 (.getfield 44, 9, 10, 1, []) := io_get (by decide +kernel) fo_RX8_44
theorem r_X8_rebuild_120 : IOK WB AD SR FW TB md_X8_rebuild 120 (.ifCond .eq 16, 0, 0, 0, []) := io_plain (by decide +kernel) rfl
theorem r_X8_rebuild_136 : IOK WB AD SR FW TB md_X8_rebuild 136 (.iload 5, 0, 0, 0, []) := io_plain (by decide +kernel) rfl
theorem r_X8_rebuild_138 : IOK WB AD SR FW TB md_X8_rebuild 138 (.iload_n 3, 0, 0, 0, []) := io_plain (by decide +kernel) rfl
theorem r_X8_rebuild_139 : IOK WB AD SR FW TB md_X8_rebuild 139 (.invokevirtual 117, 2, 9, 0, []) := io_virt (by decide +kernel) tb_X8_putOn (Or.inl (wb_3 172 rfl rfl)) in_X8_putOn se_X8_putOn ⟨_, rfl, rfl⟩ pr_X8_putOn (by decide)
theorem r_X8_rebuild_142 : IOK WB AD SR FW TB md_X8_rebuild 142 (.ireturn, 0, 0, 0, []) := io_plain (by decide +kernel) rfl
set_option maxRecDepth 100000 in
theorem ok_X8_rebuild_0 : ∀ q ∈ tl_X8_rebuild, IOK WB AD SR FW TB md_X8_rebuild q.1 q.2 := fun _ h => absurd h List.not_mem_nil
set_option maxRecDepth 100000 in
theorem tq_X8_rebuild_0 : tf_X8_rebuild = tl_X8_rebuild.map (fun q => (q.1, stepOf NPf md_X8_rebuild q.2)) := rfl
theorem ro_X8_rebuild : RowsOK (md_X8_rebuild, tl_X8_rebuild) tf_X8_rebuild := ⟨tq_X8_rebuild_0, ok_X8_rebuild_0⟩
theorem r_X17_placed_0 : IOK WB AD SR FW TB md_X17_placed 0 (.aload_n 1, 0, 0, 0, []) := io_plain (by decide +kernel) rfl
theorem r_X17_placed_1 : IOK WB AD SR FW TB md_X17_placed 1 (.invokevirtual 171, 13, 17, 0, []) := io_virt (by decide +kernel) tb_X16_isVariable (Or.inl (wb_8 78 rfl rfl)) in_X16_isVariable se_X16_isVariable ⟨_, rfl, rfl⟩ pr_X16_isVariable (by decide)
theorem r_X17_placed_4 : IOK WB AD SR FW TB md_X17_placed 4 (.ifCond .eq 23, 0, 0, 0, []) := io_plain (by decide +kernel) rfl
theorem r_X17_placed_27 : IOK WB AD SR FW TB md_X17_placed 27 (.aload_n 1, 0, 0, 0, []) := io_plain (by decide +kernel) rfl
theorem r_X17_placed_28 : IOK WB AD SR FW TB md_X17_placed 28 (.getfield 125, 17, 2, 2, []) := io_get (by decide +kernel) fo_RX17_125
theorem r_X17_placed_31 : IOK WB AD SR FW TB md_X17_placed 31 (.astore_n 3, 0, 0, 0, []) := io_plain (by decide +kernel) rfl
theorem r_X17_placed_32 : IOK WB AD SR FW TB md_X17_placed 32 (.iconst 0, 0, 0, 0, []) := io_plain (by decide +kernel) rfl
theorem r_X17_placed_33 : IOK WB AD SR FW TB md_X17_placed 33 (.istore 4, 0, 0, 0, []) := io_plain (by decide +kernel) rfl
theorem r_X17_placed_35 : IOK WB AD SR FW TB md_X17_placed 35 (.iload 4, 0, 0, 0, []) := io_plain (by decide +kernel) rfl
theorem r_X17_placed_37 : IOK WB AD SR FW TB md_X17_placed 37 (.aload_n 1, 0, 0, 0, []) := io_plain (by decide +kernel) rfl
theorem r_X17_placed_38 : IOK WB AD SR FW TB md_X17_placed 38 (.getfield 125, 17, 2, 2, []) := io_get (by decide +kernel) fo_RX17_125
theorem r_X17_placed_41 : IOK WB AD SR FW TB md_X17_placed 41 (.arraylength, 0, 0, 0, []) := io_plain (by decide +kernel) rfl
theorem r_X17_placed_42 : IOK WB AD SR FW TB md_X17_placed 42 (.if_icmp .ge 66, 0, 0, 0, []) := io_plain (by decide +kernel) rfl
theorem r_X17_placed_45 : IOK WB AD SR FW TB md_X17_placed 45 (.aload_n 0, 0, 0, 0, []) := io_plain (by decide +kernel) rfl
theorem r_X17_placed_46 : IOK WB AD SR FW TB md_X17_placed 46 (.aload_n 1, 0, 0, 0, []) := io_plain (by decide +kernel) rfl
theorem r_X17_placed_47 : IOK WB AD SR FW TB md_X17_placed 47 (.getfield 125, 17, 2, 2, []) := io_get (by decide +kernel) fo_RX17_125
theorem r_X17_placed_50 : IOK WB AD SR FW TB md_X17_placed 50 (.iload 4, 0, 0, 0, []) := io_plain (by decide +kernel) rfl
theorem r_X17_placed_52 : IOK WB AD SR FW TB md_X17_placed 52 (.aaload, 0, 0, 0, []) := io_plain (by decide +kernel) rfl
theorem r_X17_placed_53 : IOK WB AD SR FW TB md_X17_placed 53 (.aload_n 2, 0, 0, 0, []) := io_plain (by decide +kernel) rfl
theorem r_X17_placed_54 : IOK WB AD SR FW TB md_X17_placed 54 (.invokevirtual 242, 5, 18, 0, []) := io_virt (by decide +kernel) tb_X17_placed (Or.inl (wb_9 5 rfl rfl)) in_X17_placed se_X17_placed ⟨_, rfl, rfl⟩ pr_X17_placed (by decide)
theorem r_X17_placed_57 : IOK WB AD SR FW TB md_X17_placed 57 (.astore 5, 0, 0, 0, []) := io_plain (by decide +kernel) rfl
theorem r_X17_placed_59 : IOK WB AD SR FW TB md_X17_placed 59 (.aload_n 3, 0, 0, 0, []) := io_plain (by decide +kernel) rfl
theorem r_X17_placed_60 : IOK WB AD SR FW TB md_X17_placed 60 (.aload_n 1, 0, 0, 0, []) := io_plain (by decide +kernel) rfl
theorem r_X17_placed_61 : IOK WB AD SR FW TB md_X17_placed 61 (.getfield 125, 17, 2, 2, []) := io_get (by decide +kernel) fo_RX17_125
theorem r_X17_placed_64 : IOK WB AD SR FW TB md_X17_placed 64 (.if_acmp .ne 22, 0, 0, 0, []) := io_plain (by decide +kernel) rfl
theorem r_X17_placed_67 : IOK WB AD SR FW TB md_X17_placed 67 (.aload 5, 0, 0, 0, []) := io_plain (by decide +kernel) rfl
theorem r_X17_placed_69 : IOK WB AD SR FW TB md_X17_placed 69 (.aload_n 1, 0, 0, 0, []) := io_plain (by decide +kernel) rfl
theorem r_X17_placed_70 : IOK WB AD SR FW TB md_X17_placed 70 (.getfield 125, 17, 2, 2, []) := io_get (by decide +kernel) fo_RX17_125
theorem r_X17_placed_73 : IOK WB AD SR FW TB md_X17_placed 73 (.iload 4, 0, 0, 0, []) := io_plain (by decide +kernel) rfl
theorem r_X17_placed_75 : IOK WB AD SR FW TB md_X17_placed 75 (.aaload, 0, 0, 0, []) := io_plain (by decide +kernel) rfl
theorem r_X17_placed_76 : IOK WB AD SR FW TB md_X17_placed 76 (.if_acmp .eq 10, 0, 0, 0, []) := io_plain (by decide +kernel) rfl
theorem r_X17_placed_86 : IOK WB AD SR FW TB md_X17_placed 86 (.aload_n 3, 0, 0, 0, []) := io_plain (by decide +kernel) rfl
theorem r_X17_placed_87 : IOK WB AD SR FW TB md_X17_placed 87 (.astore_n 3, 0, 0, 0, []) := io_plain (by decide +kernel) rfl
theorem r_X17_placed_88 : IOK WB AD SR FW TB md_X17_placed 88 (.aload_n 3, 0, 0, 0, []) := io_plain (by decide +kernel) rfl
theorem r_X17_placed_89 : IOK WB AD SR FW TB md_X17_placed 89 (.aload_n 1, 0, 0, 0, []) := io_plain (by decide +kernel) rfl
theorem r_X17_placed_90 : IOK WB AD SR FW TB md_X17_placed 90 (.getfield 125, 17, 2, 2, []) := io_get (by decide +kernel) fo_RX17_125
theorem r_X17_placed_93 : IOK WB AD SR FW TB md_X17_placed 93 (.if_acmp .eq 9, 0, 0, 0, []) := io_plain (by decide +kernel) rfl
theorem r_X17_placed_102 : IOK WB AD SR FW TB md_X17_placed 102 (.iinc 4 1, 0, 0, 0, []) := io_plain (by decide +kernel) rfl
theorem r_X17_placed_105 : IOK WB AD SR FW TB md_X17_placed 105 (.goto (-70), 0, 0, 0, []) := io_plain (by decide +kernel) rfl
theorem r_X17_placed_108 : IOK WB AD SR FW TB md_X17_placed 108 (.aload_n 3, 0, 0, 0, []) := io_plain (by decide +kernel) rfl
theorem r_X17_placed_109 : IOK WB AD SR FW TB md_X17_placed 109 (.aload_n 1, 0, 0, 0, []) := io_plain (by decide +kernel) rfl
theorem r_X17_placed_110 : IOK WB AD SR FW TB md_X17_placed 110 (.getfield 125, 17, 2, 2, []) := io_get (by decide +kernel) fo_RX17_125
theorem r_X17_placed_113 : IOK WB AD SR FW TB md_X17_placed 113 (.if_acmp .ne 7, 0, 0, 0, []) := io_plain (by decide +kernel) rfl
theorem r_X17_placed_116 : IOK WB AD SR FW TB md_X17_placed 116 (.aload_n 1, 0, 0, 0, []) := io_plain (by decide +kernel) rfl
theorem r_X17_placed_117 : IOK WB AD SR FW TB md_X17_placed 117 (.goto 12, 0, 0, 0, []) := io_plain (by decide +kernel) rfl
theorem r_X17_placed_129 : IOK WB AD SR FW TB md_X17_placed 129 (.areturn, 0, 0, 0, []) := io_aret (by decide +kernel) rfl
set_option maxRecDepth 100000 in
theorem ok_X17_placed_0 : ∀ q ∈ tl_X17_placed_0, IOK WB AD SR FW TB md_X17_placed q.1 q.2 := List.forall_mem_cons.mpr ⟨r_X17_placed_0, List.forall_mem_cons.mpr ⟨r_X17_placed_1, List.forall_mem_cons.mpr ⟨r_X17_placed_4, List.forall_mem_cons.mpr ⟨r_X17_placed_27, List.forall_mem_cons.mpr ⟨r_X17_placed_28, List.forall_mem_cons.mpr ⟨r_X17_placed_31, List.forall_mem_cons.mpr ⟨r_X17_placed_32, List.forall_mem_cons.mpr ⟨r_X17_placed_33, List.forall_mem_cons.mpr ⟨r_X17_placed_35, List.forall_mem_cons.mpr ⟨r_X17_placed_37, List.forall_mem_cons.mpr ⟨r_X17_placed_38, List.forall_mem_cons.mpr ⟨r_X17_placed_41, List.forall_mem_cons.mpr ⟨r_X17_placed_42, List.forall_mem_cons.mpr ⟨r_X17_placed_45, List.forall_mem_cons.mpr ⟨r_X17_placed_46, List.forall_mem_cons.mpr ⟨r_X17_placed_47, List.forall_mem_cons.mpr ⟨r_X17_placed_50, List.forall_mem_cons.mpr ⟨r_X17_placed_52, List.forall_mem_cons.mpr ⟨r_X17_placed_53, List.forall_mem_cons.mpr ⟨r_X17_placed_54, List.forall_mem_cons.mpr ⟨r_X17_placed_57, List.forall_mem_cons.mpr ⟨r_X17_placed_59, List.forall_mem_cons.mpr ⟨r_X17_placed_60, List.forall_mem_cons.mpr ⟨r_X17_placed_61, List.forall_mem_cons.mpr ⟨r_X17_placed_64, List.forall_mem_cons.mpr ⟨r_X17_placed_67, List.forall_mem_cons.mpr ⟨r_X17_placed_69, List.forall_mem_cons.mpr ⟨r_X17_placed_70, List.forall_mem_cons.mpr ⟨r_X17_placed_73, List.forall_mem_cons.mpr ⟨r_X17_placed_75, List.forall_mem_cons.mpr ⟨r_X17_placed_76, List.forall_mem_cons.mpr ⟨r_X17_placed_86, List.forall_mem_cons.mpr ⟨r_X17_placed_87, List.forall_mem_cons.mpr ⟨r_X17_placed_88, List.forall_mem_cons.mpr ⟨r_X17_placed_89, List.forall_mem_cons.mpr ⟨r_X17_placed_90, List.forall_mem_cons.mpr ⟨r_X17_placed_93, List.forall_mem_cons.mpr ⟨r_X17_placed_102, List.forall_mem_cons.mpr ⟨r_X17_placed_105, List.forall_mem_cons.mpr ⟨r_X17_placed_108, fun _ h => absurd h List.not_mem_nil⟩⟩⟩⟩⟩⟩⟩⟩⟩⟩⟩⟩⟩⟩⟩⟩⟩⟩⟩⟩⟩⟩⟩⟩⟩⟩⟩⟩⟩⟩⟩⟩⟩⟩⟩⟩⟩⟩⟩⟩
set_option maxRecDepth 100000 in
theorem tq_X17_placed_0 : tf_X17_placed_0 = tl_X17_placed_0.map (fun q => (q.1, stepOf NPf md_X17_placed q.2)) := rfl
set_option maxRecDepth 100000 in
theorem ok_X17_placed_1 : ∀ q ∈ tl_X17_placed_1, IOK WB AD SR FW TB md_X17_placed q.1 q.2 := List.forall_mem_cons.mpr ⟨r_X17_placed_109, List.forall_mem_cons.mpr ⟨r_X17_placed_110, List.forall_mem_cons.mpr ⟨r_X17_placed_113, List.forall_mem_cons.mpr ⟨r_X17_placed_116, List.forall_mem_cons.mpr ⟨r_X17_placed_117, List.forall_mem_cons.mpr ⟨r_X17_placed_129, fun _ h => absurd h List.not_mem_nil⟩⟩⟩⟩⟩⟩
set_option maxRecDepth 100000 in
theorem tq_X17_placed_1 : tf_X17_placed_1 = tl_X17_placed_1.map (fun q => (q.1, stepOf NPf md_X17_placed q.2)) := rfl
theorem ro_X17_placed : RowsOK (md_X17_placed, tl_X17_placed) tf_X17_placed := rows_app ⟨tq_X17_placed_0, ok_X17_placed_0⟩ (⟨tq_X17_placed_1, ok_X17_placed_1⟩)
theorem r_X6_normalForm_0 : IOK WB AD SR FW TB md_X6_normalForm 0 (.aload_n 0, 0, 0, 0, []) := io_plain (by decide +kernel) rfl
theorem r_X6_normalForm_1 : IOK WB AD SR FW TB md_X6_normalForm 1 (.getfield 42, 7, 4, 0, []) := io_get (by decide +kernel) fo_RX6_42
theorem r_X6_normalForm_4 : IOK WB AD SR FW TB md_X6_normalForm 4 (.istore_n 3, 0, 0, 0, []) := io_plain (by decide +kernel) rfl
theorem r_X6_normalForm_5 : IOK WB AD SR FW TB md_X6_normalForm 5 (.aload_n 0, 0, 0, 0, []) := io_plain (by decide +kernel) rfl
theorem r_X6_normalForm_6 : IOK WB AD SR FW TB md_X6_normalForm 6 (.iload_n 1, 0, 0, 0, []) := io_plain (by decide +kernel) rfl
theorem r_X6_normalForm_7 : IOK WB AD SR FW TB md_X6_normalForm 7 (.invokevirtual 46, 8, 7, 0, []) := io_virt (by decide +kernel) tb_X6_begin (Or.inl (wb_3 214 rfl rfl)) in_X6_begin se_X6_begin ⟨_, rfl, rfl⟩ pr_X6_begin (by decide)
theorem r_X6_normalForm_10 : IOK WB AD SR FW TB md_X6_normalForm 10 (.istore 4, 0, 0, 0, []) := io_plain (by decide +kernel) rfl
theorem r_X6_normalForm_12 : IOK WB AD SR FW TB md_X6_normalForm 12 (.iconst 0, 0, 0, 0, []) := io_plain (by decide +kernel) rfl
theorem r_X6_normalForm_13 : IOK WB AD SR FW TB md_X6_normalForm 13 (.istore 5, 0, 0, 0, []) := io_plain (by decide +kernel) rfl
theorem r_X6_normalForm_15 : IOK WB AD SR FW TB md_X6_normalForm 15 (.iload 5, 0, 0, 0, []) := io_plain (by decide +kernel) rfl
theorem r_X6_normalForm_17 : IOK WB AD SR FW TB md_X6_normalForm 17 (.ldc 50, 1000000, 0, 0, []) := io_ldc (by decide +kernel) (wb_3 222 rfl rfl)
theorem r_X6_normalForm_19 : IOK WB AD SR FW TB md_X6_normalForm 19 (.if_icmp .ge 90, 0, 0, 0, []) := io_plain (by decide +kernel) rfl
theorem r_X6_normalForm_22 : IOK WB AD SR FW TB md_X6_normalForm 22 (.iload 4, 0, 0, 0, []) := io_plain (by decide +kernel) rfl
theorem r_X6_normalForm_24 : IOK WB AD SR FW TB md_X6_normalForm 24 (.iconst (-1), 0, 0, 0, []) := io_plain (by decide +kernel) rfl
theorem r_X6_normalForm_25 : IOK WB AD SR FW TB md_X6_normalForm 25 (.if_icmp .ne 84, 0, 0, 0, []) := io_plain (by decide +kernel) rfl
theorem r_X6_normalForm_28 : IOK WB AD SR FW TB md_X6_normalForm 28 (.aload_n 0, 0, 0, 0, []) := io_plain (by decide +kernel) rfl
theorem r_X6_normalForm_29 : IOK WB AD SR FW TB md_X6_normalForm 29 (.getfield 42, 7, 4, 0, []) := io_get (by decide +kernel) fo_RX6_42
theorem r_X6_normalForm_32 : IOK WB AD SR FW TB md_X6_normalForm 32 (.iconst 1, 0, 0, 0, []) := io_plain (by decide +kernel) rfl
theorem r_X6_normalForm_33 : IOK WB AD SR FW TB md_X6_normalForm 33 (.isub, 0, 0, 0, []) := io_plain (by decide +kernel) rfl
theorem r_X6_normalForm_34 : IOK WB AD SR FW TB md_X6_normalForm 34 (.istore 6, 0, 0, 0, []) := io_plain (by decide +kernel) rfl
theorem r_X6_normalForm_36 : IOK WB AD SR FW TB md_X6_normalForm 36 (.aload_n 0, 0, 0, 0, []) := io_plain (by decide +kernel) rfl
theorem r_X6_normalForm_37 : IOK WB AD SR FW TB md_X6_normalForm 37 (.getfield 21, 7, 8, 2, []) := io_get (by decide +kernel) fo_RX6_21
theorem r_X6_normalForm_40 : IOK WB AD SR FW TB md_X6_normalForm 40 (.iload 6, 0, 0, 0, []) := io_plain (by decide +kernel) rfl
theorem r_X6_normalForm_42 : IOK WB AD SR FW TB md_X6_normalForm 42 (.iaload, 0, 0, 0, []) := io_plain (by decide +kernel) rfl
theorem r_X6_normalForm_43 : IOK WB AD SR FW TB md_X6_normalForm 43 (.ifCond .le 50, 0, 0, 0, []) := io_plain (by decide +kernel) rfl
theorem r_X6_normalForm_46 : IOK WB AD SR FW TB md_X6_normalForm 46 (.aload_n 0, 0, 0, 0, []) := io_plain (by decide +kernel) rfl
theorem r_X6_normalForm_47 : IOK WB AD SR FW TB md_X6_normalForm 47 (.getfield 18, 7, 7, 2, []) := io_get (by decide +kernel) fo_RX6_18
theorem r_X6_normalForm_50 : IOK WB AD SR FW TB md_X6_normalForm 50 (.iload 6, 0, 0, 0, []) := io_plain (by decide +kernel) rfl
theorem r_X6_normalForm_52 : IOK WB AD SR FW TB md_X6_normalForm 52 (.iaload, 0, 0, 0, []) := io_plain (by decide +kernel) rfl
theorem r_X6_normalForm_53 : IOK WB AD SR FW TB md_X6_normalForm 53 (.istore 7, 0, 0, 0, []) := io_plain (by decide +kernel) rfl
theorem r_X6_normalForm_55 : IOK WB AD SR FW TB md_X6_normalForm 55 (.aload_n 0, 0, 0, 0, []) := io_plain (by decide +kernel) rfl
theorem r_X6_normalForm_56 : IOK WB AD SR FW TB md_X6_normalForm 56 (.getfield 18, 7, 7, 2, []) := io_get (by decide +kernel) fo_RX6_18
theorem r_X6_normalForm_59 : IOK WB AD SR FW TB md_X6_normalForm 59 (.iload 6, 0, 0, 0, []) := io_plain (by decide +kernel) rfl
theorem r_X6_normalForm_61 : IOK WB AD SR FW TB md_X6_normalForm 61 (.aload_n 0, 0, 0, 0, []) := io_plain (by decide +kernel) rfl
theorem r_X6_normalForm_62 : IOK WB AD SR FW TB md_X6_normalForm 62 (.getfield 33, 7, 0, 2, []) := io_get (by decide +kernel) fo_RX6_33
theorem r_X6_normalForm_65 : IOK WB AD SR FW TB md_X6_normalForm 65 (.iload 7, 0, 0, 0, []) := io_plain (by decide +kernel) rfl
theorem r_X6_normalForm_67 : IOK WB AD SR FW TB md_X6_normalForm 67 (.invokevirtual 51, 1, 9, 0, []) := io_virt (by decide +kernel) tb_X8_end (Or.inl (wb_3 223 rfl rfl)) in_X8_end se_X8_end ⟨_, rfl, rfl⟩ pr_X8_end (by decide)
theorem r_X6_normalForm_70 : IOK WB AD SR FW TB md_X6_normalForm 70 (.iastore, 0, 0, 0, []) := io_plain (by decide +kernel) rfl
theorem r_X6_normalForm_71 : IOK WB AD SR FW TB md_X6_normalForm 71 (.aload_n 0, 0, 0, 0, []) := io_plain (by decide +kernel) rfl
theorem r_X6_normalForm_72 : IOK WB AD SR FW TB md_X6_normalForm 72 (.getfield 21, 7, 8, 2, []) := io_get (by decide +kernel) fo_RX6_21
theorem r_X6_normalForm_75 : IOK WB AD SR FW TB md_X6_normalForm 75 (.iload 6, 0, 0, 0, []) := io_plain (by decide +kernel) rfl
theorem r_X6_normalForm_77 : IOK WB AD SR FW TB md_X6_normalForm 77 (.dup2, 0, 0, 0, []) := io_plain (by decide +kernel) rfl
theorem r_X6_normalForm_78 : IOK WB AD SR FW TB md_X6_normalForm 78 (.iaload, 0, 0, 0, []) := io_plain (by decide +kernel) rfl
theorem r_X6_normalForm_79 : IOK WB AD SR FW TB md_X6_normalForm 79 (.iconst 1, 0, 0, 0, []) := io_plain (by decide +kernel) rfl
theorem r_X6_normalForm_80 : IOK WB AD SR FW TB md_X6_normalForm 80 (.isub, 0, 0, 0, []) := io_plain (by decide +kernel) rfl
theorem r_X6_normalForm_81 : IOK WB AD SR FW TB md_X6_normalForm 81 (.iastore, 0, 0, 0, []) := io_plain (by decide +kernel) rfl
theorem r_X6_normalForm_82 : IOK WB AD SR FW TB md_X6_normalForm 82 (.aload_n 0, 0, 0, 0, []) := io_plain (by decide +kernel) rfl
theorem r_X6_normalForm_83 : IOK WB AD SR FW TB md_X6_normalForm 83 (.iload 7, 0, 0, 0, []) := io_plain (by decide +kernel) rfl
theorem r_X6_normalForm_85 : IOK WB AD SR FW TB md_X6_normalForm 85 (.invokevirtual 46, 8, 7, 0, []) := io_virt (by decide +kernel) tb_X6_begin (Or.inl (wb_3 214 rfl rfl)) in_X6_begin se_X6_begin ⟨_, rfl, rfl⟩ pr_X6_begin (by decide)
theorem r_X6_normalForm_88 : IOK WB AD SR FW TB md_X6_normalForm 88 (.istore 4, 0, 0, 0, []) := io_plain (by decide +kernel) rfl
theorem r_X6_normalForm_90 : IOK WB AD SR FW TB md_X6_normalForm 90 (.goto 13, 0, 0, 0, []) := io_plain (by decide +kernel) rfl
theorem r_X6_normalForm_93 : IOK WB AD SR FW TB md_X6_normalForm 93 (.aload_n 0, 0, 0, 0, []) := io_plain (by decide +kernel) rfl
theorem r_X6_normalForm_94 : IOK WB AD SR FW TB md_X6_normalForm 94 (.iload 6, 0, 0, 0, []) := io_plain (by decide +kernel) rfl
theorem r_X6_normalForm_96 : IOK WB AD SR FW TB md_X6_normalForm 96 (.iload_n 3, 0, 0, 0, []) := io_plain (by decide +kernel) rfl
theorem r_X6_normalForm_97 : IOK WB AD SR FW TB md_X6_normalForm 97 (.iload_n 2, 0, 0, 0, []) := io_plain (by decide +kernel) rfl
theorem r_X6_normalForm_98 : IOK WB AD SR FW TB md_X6_normalForm 98 (.invokevirtual 56, 27, 7, 0, []) := io_virt (by decide +kernel) tb_X6_finish (Or.inl (wb_3 224 rfl rfl)) in_X6_finish se_X6_finish ⟨_, rfl, rfl⟩ pr_X6_finish (by decide)
theorem r_X6_normalForm_101 : IOK WB AD SR FW TB md_X6_normalForm 101 (.istore 4, 0, 0, 0, []) := io_plain (by decide +kernel) rfl
theorem r_X6_normalForm_103 : IOK WB AD SR FW TB md_X6_normalForm 103 (.iinc 5 1, 0, 0, 0, []) := io_plain (by decide +kernel) rfl
theorem r_X6_normalForm_106 : IOK WB AD SR FW TB md_X6_normalForm 106 (.goto (-91), 0, 0, 0, []) := io_plain (by decide +kernel) rfl
theorem r_X6_normalForm_109 : IOK WB AD SR FW TB md_X6_normalForm 109 (.aload_n 0, 0, 0, 0, []) := io_plain (by decide +kernel) rfl
theorem r_X6_normalForm_110 : IOK WB AD SR FW TB md_X6_normalForm 110 (.iload_n 3, 0, 0, 0, []) := io_plain (by decide +kernel) rfl
theorem r_X6_normalForm_111 : IOK WB AD SR FW TB md_X6_normalForm 111 (.putfield 42, 7, 4, 0, []) := io_put (by decide +kernel) fo_RX6_42 po_RX6_0_7_4_0
theorem r_X6_normalForm_114 : IOK WB AD SR FW TB md_X6_normalForm 114 (.iload 4, 0, 0, 0, []) := io_plain (by decide +kernel) rfl
theorem r_X6_normalForm_116 : IOK WB AD SR FW TB md_X6_normalForm 116 (.iconst (-1), 0, 0, 0, []) := io_plain (by decide +kernel) rfl
theorem r_X6_normalForm_117 : IOK WB AD SR FW TB md_X6_normalForm 117 (.if_icmp .ne 8, 0, 0, 0, []) := io_plain (by decide +kernel) rfl
theorem r_X6_normalForm_125 : IOK WB AD SR FW TB md_X6_normalForm 125 (.iload 4, 0, 0, 0, []) := io_plain (by decide +kernel) rfl
theorem r_X6_normalForm_127 : IOK WB AD SR FW TB md_X6_normalForm 127 (.ireturn, 0, 0, 0, []) := io_plain (by decide +kernel) rfl
set_option maxRecDepth 100000 in
theorem ok_X6_normalForm_0 : ∀ q ∈ tl_X6_normalForm, IOK WB AD SR FW TB md_X6_normalForm q.1 q.2 := fun _ h => absurd h List.not_mem_nil
set_option maxRecDepth 100000 in
theorem tq_X6_normalForm_0 : tf_X6_normalForm = tl_X6_normalForm.map (fun q => (q.1, stepOf NPf md_X6_normalForm q.2)) := rfl
theorem ro_X6_normalForm : RowsOK (md_X6_normalForm, tl_X6_normalForm) tf_X6_normalForm := ⟨tq_X6_normalForm_0, ok_X6_normalForm_0⟩
theorem r_X6_look_0 : IOK WB AD SR FW TB md_X6_look 0 (.aload_n 0, 0, 0, 0, []) := io_plain (by decide +kernel) rfl
theorem r_X6_look_1 : IOK WB AD SR FW TB md_X6_look 1 (.getfield 33, 7, 0, 2, []) := io_get (by decide +kernel) fo_RX6_33
theorem r_X6_look_4 : IOK WB AD SR FW TB md_X6_look 4 (.getfield 67, 9, 1, 2, []) := io_get (by decide +kernel) fo_RX6_67
theorem r_X6_look_7 : IOK WB AD SR FW TB md_X6_look 7 (.iload_n 2, 0, 0, 0, []) := io_plain (by decide +kernel) rfl
theorem r_X6_look_8 : IOK WB AD SR FW TB md_X6_look 8 (.iaload, 0, 0, 0, []) := io_plain (by decide +kernel) rfl
theorem r_X6_look_9 : IOK WB AD SR FW TB md_X6_look 9 (.istore_n 3, 0, 0, 0, []) := io_plain (by decide +kernel) rfl
theorem r_X6_look_10 : IOK WB AD SR FW TB md_X6_look 10 (.aload_n 0, 0, 0, 0, []) := io_plain (by decide +kernel) rfl
theorem r_X6_look_11 : IOK WB AD SR FW TB md_X6_look 11 (.getfield 11, 7, 5, 2, []) := io_get (by decide +kernel) fo_RX6_11
theorem r_X6_look_14 : IOK WB AD SR FW TB md_X6_look 14 (.iload_n 1, 0, 0, 0, []) := io_plain (by decide +kernel) rfl
theorem r_X6_look_15 : IOK WB AD SR FW TB md_X6_look 15 (.iload_n 2, 0, 0, 0, []) := io_plain (by decide +kernel) rfl
theorem r_X6_look_16 : IOK WB AD SR FW TB md_X6_look 16 (.iastore, 0, 0, 0, []) := io_plain (by decide +kernel) rfl
theorem r_X6_look_17 : IOK WB AD SR FW TB md_X6_look 17 (.aload_n 0, 0, 0, 0, []) := io_plain (by decide +kernel) rfl
theorem r_X6_look_18 : IOK WB AD SR FW TB md_X6_look 18 (.getfield 18, 7, 7, 2, []) := io_get (by decide +kernel) fo_RX6_18
theorem r_X6_look_21 : IOK WB AD SR FW TB md_X6_look 21 (.iload_n 1, 0, 0, 0, []) := io_plain (by decide +kernel) rfl
theorem r_X6_look_22 : IOK WB AD SR FW TB md_X6_look 22 (.iload_n 2, 0, 0, 0, []) := io_plain (by decide +kernel) rfl
theorem r_X6_look_23 : IOK WB AD SR FW TB md_X6_look 23 (.iconst 1, 0, 0, 0, []) := io_plain (by decide +kernel) rfl
theorem r_X6_look_24 : IOK WB AD SR FW TB md_X6_look 24 (.iadd, 0, 0, 0, []) := io_plain (by decide +kernel) rfl
theorem r_X6_look_25 : IOK WB AD SR FW TB md_X6_look 25 (.iastore, 0, 0, 0, []) := io_plain (by decide +kernel) rfl
theorem r_X6_look_26 : IOK WB AD SR FW TB md_X6_look 26 (.aload_n 0, 0, 0, 0, []) := io_plain (by decide +kernel) rfl
theorem r_X6_look_27 : IOK WB AD SR FW TB md_X6_look 27 (.getfield 21, 7, 8, 2, []) := io_get (by decide +kernel) fo_RX6_21
theorem r_X6_look_30 : IOK WB AD SR FW TB md_X6_look 30 (.iload_n 1, 0, 0, 0, []) := io_plain (by decide +kernel) rfl
theorem r_X6_look_31 : IOK WB AD SR FW TB md_X6_look 31 (.iload_n 3, 0, 0, 0, []) := io_plain (by decide +kernel) rfl
theorem r_X6_look_32 : IOK WB AD SR FW TB md_X6_look 32 (.bipush 32, 0, 0, 0, []) := io_plain (by decide +kernel) rfl
theorem r_X6_look_34 : IOK WB AD SR FW TB md_X6_look 34 (.if_icmp .ge 7, 0, 0, 0, []) := io_plain (by decide +kernel) rfl
theorem r_X6_look_41 : IOK WB AD SR FW TB md_X6_look 41 (.iload_n 3, 0, 0, 0, []) := io_plain (by decide +kernel) rfl
theorem r_X6_look_42 : IOK WB AD SR FW TB md_X6_look 42 (.bipush 8, 0, 0, 0, []) := io_plain (by decide +kernel) rfl
theorem r_X6_look_44 : IOK WB AD SR FW TB md_X6_look 44 (.irem, 0, 0, 0, []) := io_plain (by decide +kernel) rfl
theorem r_X6_look_45 : IOK WB AD SR FW TB md_X6_look 45 (.iastore, 0, 0, 0, []) := io_plain (by decide +kernel) rfl
theorem r_X6_look_46 : IOK WB AD SR FW TB md_X6_look 46 (.aload_n 0, 0, 0, 0, []) := io_plain (by decide +kernel) rfl
theorem r_X6_look_47 : IOK WB AD SR FW TB md_X6_look 47 (.getfield 24, 7, 9, 2, []) := io_get (by decide +kernel) fo_RX6_24
theorem r_X6_look_50 : IOK WB AD SR FW TB md_X6_look 50 (.iload_n 1, 0, 0, 0, []) := io_plain (by decide +kernel) rfl
theorem r_X6_look_51 : IOK WB AD SR FW TB md_X6_look 51 (.aload_n 0, 0, 0, 0, []) := io_plain (by decide +kernel) rfl
theorem r_X6_look_52 : IOK WB AD SR FW TB md_X6_look 52 (.getfield 33, 7, 0, 2, []) := io_get (by decide +kernel) fo_RX6_33
theorem r_X6_look_55 : IOK WB AD SR FW TB md_X6_look 55 (.getfield 70, 9, 4, 0, []) := io_get (by decide +kernel) fo_RX6_70
theorem r_X6_look_58 : IOK WB AD SR FW TB md_X6_look 58 (.iastore, 0, 0, 0, []) := io_plain (by decide +kernel) rfl
theorem r_X6_look_59 : IOK WB AD SR FW TB md_X6_look 59 (.return_, 0, 0, 0, []) := io_void (by decide +kernel) rfl
set_option maxRecDepth 100000 in
theorem ok_X6_look_0 : ∀ q ∈ tl_X6_look, IOK WB AD SR FW TB md_X6_look q.1 q.2 := fun _ h => absurd h List.not_mem_nil
set_option maxRecDepth 100000 in
theorem tq_X6_look_0 : tf_X6_look = tl_X6_look.map (fun q => (q.1, stepOf NPf md_X6_look q.2)) := rfl
theorem ro_X6_look : RowsOK (md_X6_look, tl_X6_look) tf_X6_look := ⟨tq_X6_look_0, ok_X6_look_0⟩
theorem r_X6_begin_0 : IOK WB AD SR FW TB md_X6_begin 0 (.aload_n 0, 0, 0, 0, []) := io_plain (by decide +kernel) rfl
theorem r_X6_begin_1 : IOK WB AD SR FW TB md_X6_begin 1 (.getfield 42, 7, 4, 0, []) := io_get (by decide +kernel) fo_RX6_42
theorem r_X6_begin_4 : IOK WB AD SR FW TB md_X6_begin 4 (.sipush 1240, 0, 0, 0, []) := io_plain (by decide +kernel) rfl
theorem r_X6_begin_7 : IOK WB AD SR FW TB md_X6_begin 7 (.if_icmp .lt 6, 0, 0, 0, []) := io_plain (by decide +kernel) rfl
theorem r_X6_begin_13 : IOK WB AD SR FW TB md_X6_begin 13 (.aload_n 0, 0, 0, 0, []) := io_plain (by decide +kernel) rfl
theorem r_X6_begin_14 : IOK WB AD SR FW TB md_X6_begin 14 (.getfield 15, 7, 6, 2, []) := io_get (by decide +kernel) fo_RX6_15
theorem r_X6_begin_17 : IOK WB AD SR FW TB md_X6_begin 17 (.aload_n 0, 0, 0, 0, []) := io_plain (by decide +kernel) rfl
theorem r_X6_begin_18 : IOK WB AD SR FW TB md_X6_begin 18 (.getfield 42, 7, 4, 0, []) := io_get (by decide +kernel) fo_RX6_42
theorem r_X6_begin_21 : IOK WB AD SR FW TB md_X6_begin 21 (.aload_n 0, 0, 0, 0, []) := io_plain (by decide +kernel) rfl
theorem r_X6_begin_22 : IOK WB AD SR FW TB md_X6_begin 22 (.getfield 33, 7, 0, 2, []) := io_get (by decide +kernel) fo_RX6_33
theorem r_X6_begin_25 : IOK WB AD SR FW TB md_X6_begin 25 (.getfield 60, 9, 2, 0, []) := io_get (by decide +kernel) fo_RX6_60
theorem r_X6_begin_28 : IOK WB AD SR FW TB md_X6_begin 28 (.iastore, 0, 0, 0, []) := io_plain (by decide +kernel) rfl
theorem r_X6_begin_29 : IOK WB AD SR FW TB md_X6_begin 29 (.aload_n 0, 0, 0, 0, []) := io_plain (by decide +kernel) rfl
theorem r_X6_begin_30 : IOK WB AD SR FW TB md_X6_begin 30 (.dup, 0, 0, 0, []) := io_plain (by decide +kernel) rfl
theorem r_X6_begin_31 : IOK WB AD SR FW TB md_X6_begin 31 (.getfield 42, 7, 4, 0, []) := io_get (by decide +kernel) fo_RX6_42
theorem r_X6_begin_34 : IOK WB AD SR FW TB md_X6_begin 34 (.iconst 1, 0, 0, 0, []) := io_plain (by decide +kernel) rfl
theorem r_X6_begin_35 : IOK WB AD SR FW TB md_X6_begin 35 (.iadd, 0, 0, 0, []) := io_plain (by decide +kernel) rfl
theorem r_X6_begin_36 : IOK WB AD SR FW TB md_X6_begin 36 (.putfield 42, 7, 4, 0, []) := io_put (by decide +kernel) fo_RX6_42 po_RX6_0_7_4_0
theorem r_X6_begin_39 : IOK WB AD SR FW TB md_X6_begin 39 (.aload_n 0, 0, 0, 0, []) := io_plain (by decide +kernel) rfl
theorem r_X6_begin_40 : IOK WB AD SR FW TB md_X6_begin 40 (.aload_n 0, 0, 0, 0, []) := io_plain (by decide +kernel) rfl
theorem r_X6_begin_41 : IOK WB AD SR FW TB md_X6_begin 41 (.getfield 42, 7, 4, 0, []) := io_get (by decide +kernel) fo_RX6_42
theorem r_X6_begin_44 : IOK WB AD SR FW TB md_X6_begin 44 (.iconst 1, 0, 0, 0, []) := io_plain (by decide +kernel) rfl
theorem r_X6_begin_45 : IOK WB AD SR FW TB md_X6_begin 45 (.isub, 0, 0, 0, []) := io_plain (by decide +kernel) rfl
theorem r_X6_begin_46 : IOK WB AD SR FW TB md_X6_begin 46 (.iload_n 1, 0, 0, 0, []) := io_plain (by decide +kernel) rfl
theorem r_X6_begin_47 : IOK WB AD SR FW TB md_X6_begin 47 (.invokevirtual 63, 7, 7, 0, []) := io_virt (by decide +kernel) tb_X6_look (Or.inl (wb_3 218 rfl rfl)) in_X6_look se_X6_look ⟨_, rfl, rfl⟩ pr_X6_look (by decide)
theorem r_X6_begin_50 : IOK WB AD SR FW TB md_X6_begin 50 (.iconst (-1), 0, 0, 0, []) := io_plain (by decide +kernel) rfl
theorem r_X6_begin_51 : IOK WB AD SR FW TB md_X6_begin 51 (.ireturn, 0, 0, 0, []) := io_plain (by decide +kernel) rfl
set_option maxRecDepth 100000 in
theorem ok_X6_begin_0 : ∀ q ∈ tl_X6_begin, IOK WB AD SR FW TB md_X6_begin q.1 q.2 := fun _ h => absurd h List.not_mem_nil
set_option maxRecDepth 100000 in
theorem tq_X6_begin_0 : tf_X6_begin = tl_X6_begin.map (fun q => (q.1, stepOf NPf md_X6_begin q.2)) := rfl
theorem ro_X6_begin : RowsOK (md_X6_begin, tl_X6_begin) tf_X6_begin := ⟨tq_X6_begin_0, ok_X6_begin_0⟩
theorem r_J7_fill_53178_0 : IOK WB AD SR FW TB md_J7_fill_53178 0 (.iconst 0, 0, 0, 0, []) := io_plain (by decide +kernel) rfl
theorem r_J7_fill_53178_1 : IOK WB AD SR FW TB md_J7_fill_53178 1 (.istore_n 2, 0, 0, 0, []) := io_plain (by decide +kernel) rfl
theorem r_J7_fill_53178_2 : IOK WB AD SR FW TB md_J7_fill_53178 2 (.aload_n 0, 0, 0, 0, []) := io_plain (by decide +kernel) rfl
theorem r_J7_fill_53178_3 : IOK WB AD SR FW TB md_J7_fill_53178 3 (.arraylength, 0, 0, 0, []) := io_plain (by decide +kernel) rfl
theorem r_J7_fill_53178_4 : IOK WB AD SR FW TB md_J7_fill_53178 4 (.istore_n 3, 0, 0, 0, []) := io_plain (by decide +kernel) rfl
theorem r_J7_fill_53178_5 : IOK WB AD SR FW TB md_J7_fill_53178 5 (.iload_n 2, 0, 0, 0, []) := io_plain (by decide +kernel) rfl
theorem r_J7_fill_53178_6 : IOK WB AD SR FW TB md_J7_fill_53178 6 (.iload_n 3, 0, 0, 0, []) := io_plain (by decide +kernel) rfl
theorem r_J7_fill_53178_7 : IOK WB AD SR FW TB md_J7_fill_53178 7 (.if_icmp .ge 13, 0, 0, 0, []) := io_plain (by decide +kernel) rfl
theorem r_J7_fill_53178_10 : IOK WB AD SR FW TB md_J7_fill_53178 10 (.aload_n 0, 0, 0, 0, []) := io_plain (by decide +kernel) rfl
theorem r_J7_fill_53178_11 : IOK WB AD SR FW TB md_J7_fill_53178 11 (.iload_n 2, 0, 0, 0, []) := io_plain (by decide +kernel) rfl
theorem r_J7_fill_53178_12 : IOK WB AD SR FW TB md_J7_fill_53178 12 (.iload_n 1, 0, 0, 0, []) := io_plain (by decide +kernel) rfl
theorem r_J7_fill_53178_13 : IOK WB AD SR FW TB md_J7_fill_53178 13 (.iastore, 0, 0, 0, []) := io_plain (by decide +kernel) rfl
theorem r_J7_fill_53178_14 : IOK WB AD SR FW TB md_J7_fill_53178 14 (.iinc 2 1, 0, 0, 0, []) := io_plain (by decide +kernel) rfl
theorem r_J7_fill_53178_17 : IOK WB AD SR FW TB md_J7_fill_53178 17 (.goto (-12), 0, 0, 0, []) := io_plain (by decide +kernel) rfl
theorem r_J7_fill_53178_20 : IOK WB AD SR FW TB md_J7_fill_53178 20 (.return_, 0, 0, 0, []) := io_void (by decide +kernel) rfl
set_option maxRecDepth 100000 in
theorem ok_J7_fill_53178_0 : ∀ q ∈ tl_J7_fill_53178, IOK WB AD SR FW TB md_J7_fill_53178 q.1 q.2 := List.forall_mem_cons.mpr ⟨r_J7_fill_53178_0, List.forall_mem_cons.mpr ⟨r_J7_fill_53178_1, List.forall_mem_cons.mpr ⟨r_J7_fill_53178_2, List.forall_mem_cons.mpr ⟨r_J7_fill_53178_3, List.forall_mem_cons.mpr ⟨r_J7_fill_53178_4, List.forall_mem_cons.mpr ⟨r_J7_fill_53178_5, List.forall_mem_cons.mpr ⟨r_J7_fill_53178_6, List.forall_mem_cons.mpr ⟨r_J7_fill_53178_7, List.forall_mem_cons.mpr ⟨r_J7_fill_53178_10, List.forall_mem_cons.mpr ⟨r_J7_fill_53178_11, List.forall_mem_cons.mpr ⟨r_J7_fill_53178_12, List.forall_mem_cons.mpr ⟨r_J7_fill_53178_13, List.forall_mem_cons.mpr ⟨r_J7_fill_53178_14, List.forall_mem_cons.mpr ⟨r_J7_fill_53178_17, List.forall_mem_cons.mpr ⟨r_J7_fill_53178_20, fun _ h => absurd h List.not_mem_nil⟩⟩⟩⟩⟩⟩⟩⟩⟩⟩⟩⟩⟩⟩⟩
set_option maxRecDepth 100000 in
theorem tq_J7_fill_53178_0 : tf_J7_fill_53178 = tl_J7_fill_53178.map (fun q => (q.1, stepOf NPf md_J7_fill_53178 q.2)) := rfl
theorem ro_J7_fill_53178 : RowsOK (md_J7_fill_53178, tl_J7_fill_53178) tf_J7_fill_53178 := ⟨tq_J7_fill_53178_0, ok_J7_fill_53178_0⟩
theorem r_X17_reduced_0 : IOK WB AD SR FW TB md_X17_reduced 0 (.aload_n 1, 0, 0, 0, []) := io_plain (by decide +kernel) rfl
theorem r_X17_reduced_1 : IOK WB AD SR FW TB md_X17_reduced 1 (.astore 4, 0, 0, 0, []) := io_plain (by decide +kernel) rfl
theorem r_X17_reduced_3 : IOK WB AD SR FW TB md_X17_reduced 3 (.aload 4, 0, 0, 0, []) := io_plain (by decide +kernel) rfl
theorem r_X17_reduced_5 : IOK WB AD SR FW TB md_X17_reduced 5 (.invokevirtual 171, 13, 17, 0, []) := io_virt (by decide +kernel) tb_X16_isVariable (Or.inl (wb_8 78 rfl rfl)) in_X16_isVariable se_X16_isVariable ⟨_, rfl, rfl⟩ pr_X16_isVariable (by decide)
theorem r_X17_reduced_8 : IOK WB AD SR FW TB md_X17_reduced 8 (.ifCond .ne 78, 0, 0, 0, []) := io_plain (by decide +kernel) rfl
theorem r_X17_reduced_11 : IOK WB AD SR FW TB md_X17_reduced 11 (.aload_n 0, 0, 0, 0, []) := io_plain (by decide +kernel) rfl
theorem r_X17_reduced_12 : IOK WB AD SR FW TB md_X17_reduced 12 (.getfield 304, 18, 25, 1, []) := io_get (by decide +kernel) fo_RX17_304
theorem r_X17_reduced_15 : IOK WB AD SR FW TB md_X17_reduced 15 (.ifCond .ne 15, 0, 0, 0, []) := io_plain (by decide +kernel) rfl
theorem r_X17_reduced_18 : IOK WB AD SR FW TB md_X17_reduced 18 (.aload 4, 0, 0, 0, []) := io_plain (by decide +kernel) rfl
theorem r_X17_reduced_20 : IOK WB AD SR FW TB md_X17_reduced 20 (.getfield 308, 17, 4, 0, []) := io_get (by decide +kernel) fo_RX17_308
theorem r_X17_reduced_23 : IOK WB AD SR FW TB md_X17_reduced 23 (.aload_n 0, 0, 0, 0, []) := io_plain (by decide +kernel) rfl
theorem r_X17_reduced_24 : IOK WB AD SR FW TB md_X17_reduced 24 (.invokevirtual 311, 15, 18, 0, []) := io_virt (by decide +kernel) tb_X17_stamp (Or.inl (wb_8 82 rfl rfl)) in_X17_stamp se_X17_stamp ⟨_, rfl, rfl⟩ pr_X17_stamp (by decide)
theorem r_X17_reduced_27 : IOK WB AD SR FW TB md_X17_reduced 27 (.if_icmp .eq 59, 0, 0, 0, []) := io_plain (by decide +kernel) rfl
theorem r_X17_reduced_30 : IOK WB AD SR FW TB md_X17_reduced 30 (.aload_n 0, 0, 0, 0, []) := io_plain (by decide +kernel) rfl
theorem r_X17_reduced_31 : IOK WB AD SR FW TB md_X17_reduced 31 (.aload 4, 0, 0, 0, []) := io_plain (by decide +kernel) rfl
theorem r_X17_reduced_33 : IOK WB AD SR FW TB md_X17_reduced 33 (.aload_n 2, 0, 0, 0, []) := io_plain (by decide +kernel) rfl
theorem r_X17_reduced_34 : IOK WB AD SR FW TB md_X17_reduced 34 (.iload_n 3, 0, 0, 0, []) := io_plain (by decide +kernel) rfl
theorem r_X17_reduced_35 : IOK WB AD SR FW TB md_X17_reduced 35 (.invokevirtual 314, 12, 18, 0, []) := io_virt (by decide +kernel) tb_X17_beneath (Or.inl (wb_8 86 rfl rfl)) in_X17_beneath se_X17_beneath ⟨_, rfl, rfl⟩ pr_X17_beneath (by decide)
theorem r_X17_reduced_38 : IOK WB AD SR FW TB md_X17_reduced 38 (.astore 4, 0, 0, 0, []) := io_plain (by decide +kernel) rfl
theorem r_X17_reduced_40 : IOK WB AD SR FW TB md_X17_reduced 40 (.aload 4, 0, 0, 0, []) := io_plain (by decide +kernel) rfl
theorem r_X17_reduced_42 : IOK WB AD SR FW TB md_X17_reduced 42 (.invokevirtual 171, 13, 17, 0, []) := io_virt (by decide +kernel) tb_X16_isVariable (Or.inl (wb_8 78 rfl rfl)) in_X16_isVariable se_X16_isVariable ⟨_, rfl, rfl⟩ pr_X16_isVariable (by decide)
theorem r_X17_reduced_45 : IOK WB AD SR FW TB md_X17_reduced 45 (.ifCond .eq 7, 0, 0, 0, []) := io_plain (by decide +kernel) rfl
theorem r_X17_reduced_52 : IOK WB AD SR FW TB md_X17_reduced 52 (.aload_n 0, 0, 0, 0, []) := io_plain (by decide +kernel) rfl
theorem r_X17_reduced_53 : IOK WB AD SR FW TB md_X17_reduced 53 (.aload 4, 0, 0, 0, []) := io_plain (by decide +kernel) rfl
theorem r_X17_reduced_55 : IOK WB AD SR FW TB md_X17_reduced 55 (.aload_n 2, 0, 0, 0, []) := io_plain (by decide +kernel) rfl
theorem r_X17_reduced_56 : IOK WB AD SR FW TB md_X17_reduced 56 (.iload_n 3, 0, 0, 0, []) := io_plain (by decide +kernel) rfl
theorem r_X17_reduced_57 : IOK WB AD SR FW TB md_X17_reduced 57 (.invokevirtual 317, 28, 18, 0, []) := io_virt (by decide +kernel) tb_X17_used (Or.inl (wb_8 141 rfl rfl)) in_X17_used se_X17_used ⟨_, rfl, rfl⟩ pr_X17_used (by decide)
