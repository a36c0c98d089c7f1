theorem dX0_init_0 : decode cX0_init 0 = .ok (.aload_n 0, 1) := by decide +kernel
theorem dX0_init_1 : decode cX0_init 1 = .ok (.invokespecial 3, 3) := by decide +kernel
theorem dX0_init_4 : decode cX0_init 4 = .ok (.aload_n 0, 1) := by decide +kernel
theorem dX0_init_5 : decode cX0_init 5 = .ok (.bipush 40, 2) := by decide +kernel
theorem dX0_init_7 : decode cX0_init 7 = .ok (.newarray .int, 2) := by decide +kernel
theorem dX0_init_9 : decode cX0_init 9 = .ok (.putfield 9, 3) := by decide +kernel
theorem dX0_init_12 : decode cX0_init 12 = .ok (.aload_n 0, 1) := by decide +kernel
theorem dX0_init_13 : decode cX0_init 13 = .ok (.bipush 40, 2) := by decide +kernel
theorem dX0_init_15 : decode cX0_init 15 = .ok (.newarray .int, 2) := by decide +kernel
theorem dX0_init_17 : decode cX0_init 17 = .ok (.putfield 15, 3) := by decide +kernel
theorem dX0_init_20 : decode cX0_init 20 = .ok (.aload_n 0, 1) := by decide +kernel
theorem dX0_init_21 : decode cX0_init 21 = .ok (.bipush 40, 2) := by decide +kernel
theorem dX0_init_23 : decode cX0_init 23 = .ok (.newarray .int, 2) := by decide +kernel
theorem dX0_init_25 : decode cX0_init 25 = .ok (.putfield 18, 3) := by decide +kernel
theorem dX0_init_28 : decode cX0_init 28 = .ok (.aload_n 0, 1) := by decide +kernel
theorem dX0_init_29 : decode cX0_init 29 = .ok (.bipush 40, 2) := by decide +kernel
theorem dX0_init_31 : decode cX0_init 31 = .ok (.newarray .boolean, 2) := by decide +kernel
theorem dX0_init_33 : decode cX0_init 33 = .ok (.putfield 21, 3) := by decide +kernel
theorem dX0_init_36 : decode cX0_init 36 = .ok (.return_, 1) := by decide +kernel
theorem dX0_lit_0 : decode cX0_lit 0 = .ok (.aload_n 0, 1) := by decide +kernel
theorem dX0_lit_1 : decode cX0_lit 1 = .ok (.getfield 25, 3) := by decide +kernel
theorem dX0_lit_4 : decode cX0_lit 4 = .ok (.ireturn, 1) := by decide +kernel
theorem dX0_has_0 : decode cX0_has 0 = .ok (.iload_n 1, 1) := by decide +kernel
theorem dX0_has_1 : decode cX0_has 1 = .ok (.ifCond .lt 15, 3) := by decide +kernel
theorem dX0_has_4 : decode cX0_has 4 = .ok (.iload_n 1, 1) := by decide +kernel
theorem dX0_has_5 : decode cX0_has 5 = .ok (.aload_n 0, 1) := by decide +kernel
theorem dX0_has_6 : decode cX0_has 6 = .ok (.getfield 25, 3) := by decide +kernel
theorem dX0_has_9 : decode cX0_has 9 = .ok (.if_icmp .ge 7, 3) := by decide +kernel
theorem dX0_has_12 : decode cX0_has 12 = .ok (.iconst 1, 1) := by decide +kernel
theorem dX0_has_13 : decode cX0_has 13 = .ok (.goto 4, 3) := by decide +kernel
theorem dX0_has_16 : decode cX0_has 16 = .ok (.iconst 0, 1) := by decide +kernel
theorem dX0_has_17 : decode cX0_has 17 = .ok (.ireturn, 1) := by decide +kernel
theorem dX0_add_0 : decode cX0_add 0 = .ok (.aload_n 0, 1) := by decide +kernel
theorem dX0_add_1 : decode cX0_add 1 = .ok (.getfield 25, 3) := by decide +kernel
theorem dX0_add_4 : decode cX0_add 4 = .ok (.bipush 40, 2) := by decide +kernel
theorem dX0_add_6 : decode cX0_add 6 = .ok (.if_icmp .lt 5, 3) := by decide +kernel
theorem dX0_add_9 : decode cX0_add 9 = .ok (.iconst (-1), 1) := by decide +kernel
theorem dX0_add_10 : decode cX0_add 10 = .ok (.ireturn, 1) := by decide +kernel
theorem dX0_add_11 : decode cX0_add 11 = .ok (.aload_n 0, 1) := by decide +kernel
theorem dX0_add_12 : decode cX0_add 12 = .ok (.getfield 25, 3) := by decide +kernel
theorem dX0_add_15 : decode cX0_add 15 = .ok (.istore_n 3, 1) := by decide +kernel
theorem dX0_add_16 : decode cX0_add 16 = .ok (.aload_n 0, 1) := by decide +kernel
theorem dX0_add_17 : decode cX0_add 17 = .ok (.getfield 9, 3) := by decide +kernel
theorem dX0_add_20 : decode cX0_add 20 = .ok (.iload_n 3, 1) := by decide +kernel
theorem dX0_add_21 : decode cX0_add 21 = .ok (.iload_n 1, 1) := by decide +kernel
theorem dX0_add_22 : decode cX0_add 22 = .ok (.iastore, 1) := by decide +kernel
theorem dX0_add_23 : decode cX0_add 23 = .ok (.aload_n 0, 1) := by decide +kernel
theorem dX0_add_24 : decode cX0_add 24 = .ok (.getfield 15, 3) := by decide +kernel
theorem dX0_add_27 : decode cX0_add 27 = .ok (.iload_n 3, 1) := by decide +kernel
theorem dX0_add_28 : decode cX0_add 28 = .ok (.iload_n 2, 1) := by decide +kernel
theorem dX0_add_29 : decode cX0_add 29 = .ok (.iastore, 1) := by decide +kernel
theorem dX0_add_30 : decode cX0_add 30 = .ok (.aload_n 0, 1) := by decide +kernel
theorem dX0_add_31 : decode cX0_add 31 = .ok (.dup, 1) := by decide +kernel
theorem dX0_add_32 : decode cX0_add 32 = .ok (.getfield 25, 3) := by decide +kernel
theorem dX0_add_35 : decode cX0_add 35 = .ok (.iconst 1, 1) := by decide +kernel
theorem dX0_add_36 : decode cX0_add 36 = .ok (.iadd, 1) := by decide +kernel
theorem dX0_add_37 : decode cX0_add 37 = .ok (.putfield 25, 3) := by decide +kernel
theorem dX0_add_40 : decode cX0_add 40 = .ok (.iload_n 3, 1) := by decide +kernel
theorem dX0_add_41 : decode cX0_add 41 = .ok (.ireturn, 1) := by decide +kernel
theorem dX0_heatOf_0 : decode cX0_heatOf 0 = .ok (.aload_n 0, 1) := by decide +kernel
theorem dX0_heatOf_1 : decode cX0_heatOf 1 = .ok (.iload_n 1, 1) := by decide +kernel
theorem dX0_heatOf_2 : decode cX0_heatOf 2 = .ok (.invokevirtual 29, 3) := by decide +kernel
theorem dX0_heatOf_5 : decode cX0_heatOf 5 = .ok (.ifCond .eq 12, 3) := by decide +kernel
theorem dX0_heatOf_8 : decode cX0_heatOf 8 = .ok (.aload_n 0, 1) := by decide +kernel
theorem dX0_heatOf_9 : decode cX0_heatOf 9 = .ok (.getfield 9, 3) := by decide +kernel
theorem dX0_heatOf_12 : decode cX0_heatOf 12 = .ok (.iload_n 1, 1) := by decide +kernel
theorem dX0_heatOf_13 : decode cX0_heatOf 13 = .ok (.iaload, 1) := by decide +kernel
theorem dX0_heatOf_14 : decode cX0_heatOf 14 = .ok (.goto 4, 3) := by decide +kernel
theorem dX0_heatOf_17 : decode cX0_heatOf 17 = .ok (.iconst 0, 1) := by decide +kernel
theorem dX0_heatOf_18 : decode cX0_heatOf 18 = .ok (.ireturn, 1) := by decide +kernel
theorem dX0_setHeat_0 : decode cX0_setHeat 0 = .ok (.aload_n 0, 1) := by decide +kernel
theorem dX0_setHeat_1 : decode cX0_setHeat 1 = .ok (.iload_n 1, 1) := by decide +kernel
theorem dX0_setHeat_2 : decode cX0_setHeat 2 = .ok (.invokevirtual 29, 3) := by decide +kernel
theorem dX0_setHeat_5 : decode cX0_setHeat 5 = .ok (.ifCond .eq 10, 3) := by decide +kernel
theorem dX0_setHeat_8 : decode cX0_setHeat 8 = .ok (.aload_n 0, 1) := by decide +kernel
theorem dX0_setHeat_9 : decode cX0_setHeat 9 = .ok (.getfield 9, 3) := by decide +kernel
theorem dX0_setHeat_12 : decode cX0_setHeat 12 = .ok (.iload_n 1, 1) := by decide +kernel
theorem dX0_setHeat_13 : decode cX0_setHeat 13 = .ok (.iload_n 2, 1) := by decide +kernel
theorem dX0_setHeat_14 : decode cX0_setHeat 14 = .ok (.iastore, 1) := by decide +kernel
theorem dX0_setHeat_15 : decode cX0_setHeat 15 = .ok (.return_, 1) := by decide +kernel
theorem dX0_homeOf_0 : decode cX0_homeOf 0 = .ok (.aload_n 0, 1) := by decide +kernel
theorem dX0_homeOf_1 : decode cX0_homeOf 1 = .ok (.iload_n 1, 1) := by decide +kernel
theorem dX0_homeOf_2 : decode cX0_homeOf 2 = .ok (.invokevirtual 29, 3) := by decide +kernel
theorem dX0_homeOf_5 : decode cX0_homeOf 5 = .ok (.ifCond .eq 12, 3) := by decide +kernel
theorem dX0_homeOf_8 : decode cX0_homeOf 8 = .ok (.aload_n 0, 1) := by decide +kernel
theorem dX0_homeOf_9 : decode cX0_homeOf 9 = .ok (.getfield 15, 3) := by decide +kernel
theorem dX0_homeOf_12 : decode cX0_homeOf 12 = .ok (.iload_n 1, 1) := by decide +kernel
theorem dX0_homeOf_13 : decode cX0_homeOf 13 = .ok (.iaload, 1) := by decide +kernel
theorem dX0_homeOf_14 : decode cX0_homeOf 14 = .ok (.goto 4, 3) := by decide +kernel
theorem dX0_homeOf_17 : decode cX0_homeOf 17 = .ok (.iconst (-1), 1) := by decide +kernel
theorem dX0_homeOf_18 : decode cX0_homeOf 18 = .ok (.ireturn, 1) := by decide +kernel
theorem dX0_setHome_0 : decode cX0_setHome 0 = .ok (.aload_n 0, 1) := by decide +kernel
theorem dX0_setHome_1 : decode cX0_setHome 1 = .ok (.iload_n 1, 1) := by decide +kernel
theorem dX0_setHome_2 : decode cX0_setHome 2 = .ok (.invokevirtual 29, 3) := by decide +kernel
theorem dX0_setHome_5 : decode cX0_setHome 5 = .ok (.ifCond .eq 10, 3) := by decide +kernel
theorem dX0_setHome_8 : decode cX0_setHome 8 = .ok (.aload_n 0, 1) := by decide +kernel
theorem dX0_setHome_9 : decode cX0_setHome 9 = .ok (.getfield 15, 3) := by decide +kernel
theorem dX0_setHome_12 : decode cX0_setHome 12 = .ok (.iload_n 1, 1) := by decide +kernel
theorem dX0_setHome_13 : decode cX0_setHome 13 = .ok (.iload_n 2, 1) := by decide +kernel
theorem dX0_setHome_14 : decode cX0_setHome 14 = .ok (.iastore, 1) := by decide +kernel
theorem dX0_setHome_15 : decode cX0_setHome 15 = .ok (.return_, 1) := by decide +kernel
theorem dX0_goOut_0 : decode cX0_goOut 0 = .ok (.aload_n 0, 1) := by decide +kernel
theorem dX0_goOut_1 : decode cX0_goOut 1 = .ok (.iload_n 1, 1) := by decide +kernel
theorem dX0_goOut_2 : decode cX0_goOut 2 = .ok (.invokevirtual 29, 3) := by decide +kernel
theorem dX0_goOut_5 : decode cX0_goOut 5 = .ok (.ifCond .eq 17, 3) := by decide +kernel
theorem dX0_goOut_8 : decode cX0_goOut 8 = .ok (.aload_n 0, 1) := by decide +kernel
theorem dX0_goOut_9 : decode cX0_goOut 9 = .ok (.getfield 15, 3) := by decide +kernel
theorem dX0_goOut_12 : decode cX0_goOut 12 = .ok (.iload_n 1, 1) := by decide +kernel
theorem dX0_goOut_13 : decode cX0_goOut 13 = .ok (.iconst (-1), 1) := by decide +kernel
theorem dX0_goOut_14 : decode cX0_goOut 14 = .ok (.iastore, 1) := by decide +kernel
theorem dX0_goOut_15 : decode cX0_goOut 15 = .ok (.aload_n 0, 1) := by decide +kernel
theorem dX0_goOut_16 : decode cX0_goOut 16 = .ok (.getfield 21, 3) := by decide +kernel
theorem dX0_goOut_19 : decode cX0_goOut 19 = .ok (.iload_n 1, 1) := by decide +kernel
theorem dX0_goOut_20 : decode cX0_goOut 20 = .ok (.iload_n 2, 1) := by decide +kernel
theorem dX0_goOut_21 : decode cX0_goOut 21 = .ok (.bastore, 1) := by decide +kernel
theorem dX0_goOut_22 : decode cX0_goOut 22 = .ok (.return_, 1) := by decide +kernel
theorem dX0_isRaked_0 : decode cX0_isRaked 0 = .ok (.aload_n 0, 1) := by decide +kernel
theorem dX0_isRaked_1 : decode cX0_isRaked 1 = .ok (.iload_n 1, 1) := by decide +kernel
theorem dX0_isRaked_2 : decode cX0_isRaked 2 = .ok (.invokevirtual 29, 3) := by decide +kernel
theorem dX0_isRaked_5 : decode cX0_isRaked 5 = .ok (.ifCond .eq 16, 3) := by decide +kernel
theorem dX0_isRaked_8 : decode cX0_isRaked 8 = .ok (.aload_n 0, 1) := by decide +kernel
theorem dX0_isRaked_9 : decode cX0_isRaked 9 = .ok (.getfield 21, 3) := by decide +kernel
theorem dX0_isRaked_12 : decode cX0_isRaked 12 = .ok (.iload_n 1, 1) := by decide +kernel
theorem dX0_isRaked_13 : decode cX0_isRaked 13 = .ok (.baload, 1) := by decide +kernel
theorem dX0_isRaked_14 : decode cX0_isRaked 14 = .ok (.ifCond .eq 7, 3) := by decide +kernel
theorem dX0_isRaked_17 : decode cX0_isRaked 17 = .ok (.iconst 1, 1) := by decide +kernel
theorem dX0_isRaked_18 : decode cX0_isRaked 18 = .ok (.goto 4, 3) := by decide +kernel
theorem dX0_isRaked_21 : decode cX0_isRaked 21 = .ok (.iconst 0, 1) := by decide +kernel
theorem dX0_isRaked_22 : decode cX0_isRaked 22 = .ok (.ireturn, 1) := by decide +kernel
theorem dX0_movedOf_0 : decode cX0_movedOf 0 = .ok (.aload_n 0, 1) := by decide +kernel
theorem dX0_movedOf_1 : decode cX0_movedOf 1 = .ok (.iload_n 1, 1) := by decide +kernel
theorem dX0_movedOf_2 : decode cX0_movedOf 2 = .ok (.invokevirtual 29, 3) := by decide +kernel
theorem dX0_movedOf_5 : decode cX0_movedOf 5 = .ok (.ifCond .eq 12, 3) := by decide +kernel
theorem dX0_movedOf_8 : decode cX0_movedOf 8 = .ok (.aload_n 0, 1) := by decide +kernel
theorem dX0_movedOf_9 : decode cX0_movedOf 9 = .ok (.getfield 18, 3) := by decide +kernel
theorem dX0_movedOf_12 : decode cX0_movedOf 12 = .ok (.iload_n 1, 1) := by decide +kernel
theorem dX0_movedOf_13 : decode cX0_movedOf 13 = .ok (.iaload, 1) := by decide +kernel
theorem dX0_movedOf_14 : decode cX0_movedOf 14 = .ok (.goto 4, 3) := by decide +kernel
theorem dX0_movedOf_17 : decode cX0_movedOf 17 = .ok (.iconst 0, 1) := by decide +kernel
theorem dX0_movedOf_18 : decode cX0_movedOf 18 = .ok (.ireturn, 1) := by decide +kernel
theorem dX0_noteMove_0 : decode cX0_noteMove 0 = .ok (.aload_n 0, 1) := by decide +kernel
theorem dX0_noteMove_1 : decode cX0_noteMove 1 = .ok (.iload_n 1, 1) := by decide +kernel
theorem dX0_noteMove_2 : decode cX0_noteMove 2 = .ok (.invokevirtual 29, 3) := by decide +kernel
theorem dX0_noteMove_5 : decode cX0_noteMove 5 = .ok (.ifCond .eq 13, 3) := by decide +kernel
theorem dX0_noteMove_8 : decode cX0_noteMove 8 = .ok (.aload_n 0, 1) := by decide +kernel
theorem dX0_noteMove_9 : decode cX0_noteMove 9 = .ok (.getfield 18, 3) := by decide +kernel
theorem dX0_noteMove_12 : decode cX0_noteMove 12 = .ok (.iload_n 1, 1) := by decide +kernel
theorem dX0_noteMove_13 : decode cX0_noteMove 13 = .ok (.dup2, 1) := by decide +kernel
theorem dX0_noteMove_14 : decode cX0_noteMove 14 = .ok (.iaload, 1) := by decide +kernel
theorem dX0_noteMove_15 : decode cX0_noteMove 15 = .ok (.iconst 1, 1) := by decide +kernel
theorem dX0_noteMove_16 : decode cX0_noteMove 16 = .ok (.iadd, 1) := by decide +kernel
theorem dX0_noteMove_17 : decode cX0_noteMove 17 = .ok (.iastore, 1) := by decide +kernel
theorem dX0_noteMove_18 : decode cX0_noteMove 18 = .ok (.return_, 1) := by decide +kernel
theorem dX1_init_0 : decode cX1_init 0 = .ok (.aload_n 0, 1) := by decide +kernel
theorem dX1_init_1 : decode cX1_init 1 = .ok (.invokespecial 3, 3) := by decide +kernel
theorem dX1_init_4 : decode cX1_init 4 = .ok (.aload_n 0, 1) := by decide +kernel
theorem dX1_init_5 : decode cX1_init 5 = .ok (.new 9, 3) := by decide +kernel
theorem dX1_init_8 : decode cX1_init 8 = .ok (.dup, 1) := by decide +kernel
theorem dX1_init_9 : decode cX1_init 9 = .ok (.invokespecial 11, 3) := by decide +kernel
theorem dX1_init_12 : decode cX1_init 12 = .ok (.putfield 12, 3) := by decide +kernel
theorem dX1_init_15 : decode cX1_init 15 = .ok (.aload_n 0, 1) := by decide +kernel
theorem dX1_init_16 : decode cX1_init 16 = .ok (.new 9, 3) := by decide +kernel
theorem dX1_init_19 : decode cX1_init 19 = .ok (.dup, 1) := by decide +kernel
theorem dX1_init_20 : decode cX1_init 20 = .ok (.invokespecial 11, 3) := by decide +kernel
theorem dX1_init_23 : decode cX1_init 23 = .ok (.putfield 18, 3) := by decide +kernel
theorem dX1_init_26 : decode cX1_init 26 = .ok (.aload_n 0, 1) := by decide +kernel
theorem dX1_init_27 : decode cX1_init 27 = .ok (.bipush 11, 2) := by decide +kernel
theorem dX1_init_29 : decode cX1_init 29 = .ok (.newarray .int, 2) := by decide +kernel
theorem dX1_init_31 : decode cX1_init 31 = .ok (.putfield 21, 3) := by decide +kernel
theorem dX1_init_34 : decode cX1_init 34 = .ok (.aload_n 0, 1) := by decide +kernel
theorem dX1_init_35 : decode cX1_init 35 = .ok (.aload_n 1, 1) := by decide +kernel
theorem dX1_init_36 : decode cX1_init 36 = .ok (.putfield 25, 3) := by decide +kernel
theorem dX1_init_39 : decode cX1_init 39 = .ok (.aload_n 0, 1) := by decide +kernel
theorem dX1_init_40 : decode cX1_init 40 = .ok (.iload_n 2, 1) := by decide +kernel
theorem dX1_init_41 : decode cX1_init 41 = .ok (.putfield 29, 3) := by decide +kernel
theorem dX1_init_44 : decode cX1_init 44 = .ok (.return_, 1) := by decide +kernel
theorem dX1_size_0 : decode cX1_size 0 = .ok (.aload_n 0, 1) := by decide +kernel
theorem dX1_size_1 : decode cX1_size 1 = .ok (.getfield 12, 3) := by decide +kernel
theorem dX1_size_4 : decode cX1_size 4 = .ok (.invokevirtual 33, 3) := by decide +kernel
theorem dX1_size_7 : decode cX1_size 7 = .ok (.ireturn, 1) := by decide +kernel
theorem dX1_low_0 : decode cX1_low 0 = .ok (.aload_n 0, 1) := by decide +kernel
theorem dX1_low_1 : decode cX1_low 1 = .ok (.getfield 37, 3) := by decide +kernel
theorem dX1_low_4 : decode cX1_low 4 = .ok (.ireturn, 1) := by decide +kernel
theorem dX1_movesMade_0 : decode cX1_movesMade 0 = .ok (.aload_n 0, 1) := by decide +kernel
theorem dX1_movesMade_1 : decode cX1_movesMade 1 = .ok (.getfield 41, 3) := by decide +kernel
theorem dX1_movesMade_4 : decode cX1_movesMade 4 = .ok (.ireturn, 1) := by decide +kernel
theorem dX1_rakes_0 : decode cX1_rakes 0 = .ok (.aload_n 0, 1) := by decide +kernel
theorem dX1_rakes_1 : decode cX1_rakes 1 = .ok (.getfield 44, 3) := by decide +kernel
theorem dX1_rakes_4 : decode cX1_rakes 4 = .ok (.ireturn, 1) := by decide +kernel
theorem dX1_takesHeat_0 : decode cX1_takesHeat 0 = .ok (.iload_n 1, 1) := by decide +kernel
theorem dX1_takesHeat_1 : decode cX1_takesHeat 1 = .ok (.aload_n 0, 1) := by decide +kernel
theorem dX1_takesHeat_2 : decode cX1_takesHeat 2 = .ok (.getfield 37, 3) := by decide +kernel
theorem dX1_takesHeat_5 : decode cX1_takesHeat 5 = .ok (.if_icmp .lt 14, 3) := by decide +kernel
theorem dX1_takesHeat_8 : decode cX1_takesHeat 8 = .ok (.iload_n 1, 1) := by decide +kernel
theorem dX1_takesHeat_9 : decode cX1_takesHeat 9 = .ok (.sipush 1023, 3) := by decide +kernel
theorem dX1_takesHeat_12 : decode cX1_takesHeat 12 = .ok (.if_icmp .gt 7, 3) := by decide +kernel
theorem dX1_takesHeat_15 : decode cX1_takesHeat 15 = .ok (.iconst 1, 1) := by decide +kernel
theorem dX1_takesHeat_16 : decode cX1_takesHeat 16 = .ok (.goto 4, 3) := by decide +kernel
theorem dX1_takesHeat_19 : decode cX1_takesHeat 19 = .ok (.iconst 0, 1) := by decide +kernel
theorem dX1_takesHeat_20 : decode cX1_takesHeat 20 = .ok (.ireturn, 1) := by decide +kernel
theorem dX1_bucketFor_0 : decode cX1_bucketFor 0 = .ok (.aload_n 0, 1) := by decide +kernel
theorem dX1_bucketFor_1 : decode cX1_bucketFor 1 = .ok (.getfield 37, 3) := by decide +kernel
theorem dX1_bucketFor_4 : decode cX1_bucketFor 4 = .ok (.iload_n 1, 1) := by decide +kernel
theorem dX1_bucketFor_5 : decode cX1_bucketFor 5 = .ok (.ixor, 1) := by decide +kernel
theorem dX1_bucketFor_6 : decode cX1_bucketFor 6 = .ok (.istore_n 2, 1) := by decide +kernel
theorem dX1_bucketFor_7 : decode cX1_bucketFor 7 = .ok (.iconst 0, 1) := by decide +kernel
theorem dX1_bucketFor_8 : decode cX1_bucketFor 8 = .ok (.istore_n 3, 1) := by decide +kernel
theorem dX1_bucketFor_9 : decode cX1_bucketFor 9 = .ok (.iload_n 3, 1) := by decide +kernel
theorem dX1_bucketFor_10 : decode cX1_bucketFor 10 = .ok (.bipush 10, 2) := by decide +kernel
theorem dX1_bucketFor_12 : decode cX1_bucketFor 12 = .ok (.if_icmp .ge 15, 3) := by decide +kernel
theorem dX1_bucketFor_15 : decode cX1_bucketFor 15 = .ok (.iload_n 2, 1) := by decide +kernel
theorem dX1_bucketFor_16 : decode cX1_bucketFor 16 = .ok (.iload_n 3, 1) := by decide +kernel
theorem dX1_bucketFor_17 : decode cX1_bucketFor 17 = .ok (.ishr, 1) := by decide +kernel
theorem dX1_bucketFor_18 : decode cX1_bucketFor 18 = .ok (.ifCond .eq 9, 3) := by decide +kernel
theorem dX1_bucketFor_21 : decode cX1_bucketFor 21 = .ok (.iinc 3 1, 3) := by decide +kernel
theorem dX1_bucketFor_24 : decode cX1_bucketFor 24 = .ok (.goto (-15), 3) := by decide +kernel
theorem dX1_bucketFor_27 : decode cX1_bucketFor 27 = .ok (.iload_n 3, 1) := by decide +kernel
theorem dX1_bucketFor_28 : decode cX1_bucketFor 28 = .ok (.ireturn, 1) := by decide +kernel
theorem dX1_sizeOf_0 : decode cX1_sizeOf 0 = .ok (.iload_n 1, 1) := by decide +kernel
theorem dX1_sizeOf_1 : decode cX1_sizeOf 1 = .ok (.ifCond .lt 18, 3) := by decide +kernel
theorem dX1_sizeOf_4 : decode cX1_sizeOf 4 = .ok (.iload_n 1, 1) := by decide +kernel
theorem dX1_sizeOf_5 : decode cX1_sizeOf 5 = .ok (.bipush 11, 2) := by decide +kernel
theorem dX1_sizeOf_7 : decode cX1_sizeOf 7 = .ok (.if_icmp .ge 12, 3) := by decide +kernel
theorem dX1_sizeOf_10 : decode cX1_sizeOf 10 = .ok (.aload_n 0, 1) := by decide +kernel
theorem dX1_sizeOf_11 : decode cX1_sizeOf 11 = .ok (.getfield 21, 3) := by decide +kernel
theorem dX1_sizeOf_14 : decode cX1_sizeOf 14 = .ok (.iload_n 1, 1) := by decide +kernel
theorem dX1_sizeOf_15 : decode cX1_sizeOf 15 = .ok (.iaload, 1) := by decide +kernel
theorem dX1_sizeOf_16 : decode cX1_sizeOf 16 = .ok (.goto 4, 3) := by decide +kernel
theorem dX1_sizeOf_19 : decode cX1_sizeOf 19 = .ok (.iconst 0, 1) := by decide +kernel
theorem dX1_sizeOf_20 : decode cX1_sizeOf 20 = .ok (.ireturn, 1) := by decide +kernel
theorem dX1_emberAt_0 : decode cX1_emberAt 0 = .ok (.iload_n 2, 1) := by decide +kernel
theorem dX1_emberAt_1 : decode cX1_emberAt 1 = .ok (.ifCond .lt 29, 3) := by decide +kernel
theorem dX1_emberAt_4 : decode cX1_emberAt 4 = .ok (.iload_n 2, 1) := by decide +kernel
theorem dX1_emberAt_5 : decode cX1_emberAt 5 = .ok (.aload_n 0, 1) := by decide +kernel
theorem dX1_emberAt_6 : decode cX1_emberAt 6 = .ok (.iload_n 1, 1) := by decide +kernel
theorem dX1_emberAt_7 : decode cX1_emberAt 7 = .ok (.invokevirtual 47, 3) := by decide +kernel
theorem dX1_emberAt_10 : decode cX1_emberAt 10 = .ok (.if_icmp .ge 20, 3) := by decide +kernel
theorem dX1_emberAt_13 : decode cX1_emberAt 13 = .ok (.aload_n 0, 1) := by decide +kernel
theorem dX1_emberAt_14 : decode cX1_emberAt 14 = .ok (.getfield 12, 3) := by decide +kernel
theorem dX1_emberAt_17 : decode cX1_emberAt 17 = .ok (.aload_n 0, 1) := by decide +kernel
theorem dX1_emberAt_18 : decode cX1_emberAt 18 = .ok (.iload_n 1, 1) := by decide +kernel
theorem dX1_emberAt_19 : decode cX1_emberAt 19 = .ok (.invokevirtual 51, 3) := by decide +kernel
theorem dX1_emberAt_22 : decode cX1_emberAt 22 = .ok (.iload_n 2, 1) := by decide +kernel
theorem dX1_emberAt_23 : decode cX1_emberAt 23 = .ok (.iadd, 1) := by decide +kernel
theorem dX1_emberAt_24 : decode cX1_emberAt 24 = .ok (.invokevirtual 54, 3) := by decide +kernel
theorem dX1_emberAt_27 : decode cX1_emberAt 27 = .ok (.goto 4, 3) := by decide +kernel
theorem dX1_emberAt_30 : decode cX1_emberAt 30 = .ok (.iconst (-1), 1) := by decide +kernel
theorem dX1_emberAt_31 : decode cX1_emberAt 31 = .ok (.ireturn, 1) := by decide +kernel
theorem dX1_firstBucket_0 : decode cX1_firstBucket 0 = .ok (.iconst 0, 1) := by decide +kernel
theorem dX1_firstBucket_1 : decode cX1_firstBucket 1 = .ok (.istore_n 1, 1) := by decide +kernel
theorem dX1_firstBucket_2 : decode cX1_firstBucket 2 = .ok (.iload_n 1, 1) := by decide +kernel
theorem dX1_firstBucket_3 : decode cX1_firstBucket 3 = .ok (.bipush 11, 2) := by decide +kernel
theorem dX1_firstBucket_5 : decode cX1_firstBucket 5 = .ok (.if_icmp .ge 20, 3) := by decide +kernel
theorem dX1_firstBucket_8 : decode cX1_firstBucket 8 = .ok (.aload_n 0, 1) := by decide +kernel
theorem dX1_firstBucket_9 : decode cX1_firstBucket 9 = .ok (.getfield 21, 3) := by decide +kernel
theorem dX1_firstBucket_12 : decode cX1_firstBucket 12 = .ok (.iload_n 1, 1) := by decide +kernel
theorem dX1_firstBucket_13 : decode cX1_firstBucket 13 = .ok (.iaload, 1) := by decide +kernel
theorem dX1_firstBucket_14 : decode cX1_firstBucket 14 = .ok (.ifCond .le 5, 3) := by decide +kernel
theorem dX1_firstBucket_17 : decode cX1_firstBucket 17 = .ok (.iload_n 1, 1) := by decide +kernel
theorem dX1_firstBucket_18 : decode cX1_firstBucket 18 = .ok (.ireturn, 1) := by decide +kernel
theorem dX1_firstBucket_19 : decode cX1_firstBucket 19 = .ok (.iinc 1 1, 3) := by decide +kernel
theorem dX1_firstBucket_22 : decode cX1_firstBucket 22 = .ok (.goto (-20), 3) := by decide +kernel
theorem dX1_firstBucket_25 : decode cX1_firstBucket 25 = .ok (.iconst (-1), 1) := by decide +kernel
theorem dX1_firstBucket_26 : decode cX1_firstBucket 26 = .ok (.ireturn, 1) := by decide +kernel
theorem dX1_lastBucket_0 : decode cX1_lastBucket 0 = .ok (.bipush 10, 2) := by decide +kernel
theorem dX1_lastBucket_2 : decode cX1_lastBucket 2 = .ok (.istore_n 1, 1) := by decide +kernel
theorem dX1_lastBucket_3 : decode cX1_lastBucket 3 = .ok (.iload_n 1, 1) := by decide +kernel
theorem dX1_lastBucket_4 : decode cX1_lastBucket 4 = .ok (.ifCond .lt 20, 3) := by decide +kernel
theorem dX1_lastBucket_7 : decode cX1_lastBucket 7 = .ok (.aload_n 0, 1) := by decide +kernel
theorem dX1_lastBucket_8 : decode cX1_lastBucket 8 = .ok (.getfield 21, 3) := by decide +kernel
theorem dX1_lastBucket_11 : decode cX1_lastBucket 11 = .ok (.iload_n 1, 1) := by decide +kernel
theorem dX1_lastBucket_12 : decode cX1_lastBucket 12 = .ok (.iaload, 1) := by decide +kernel
theorem dX1_lastBucket_13 : decode cX1_lastBucket 13 = .ok (.ifCond .le 5, 3) := by decide +kernel
theorem dX1_lastBucket_16 : decode cX1_lastBucket 16 = .ok (.iload_n 1, 1) := by decide +kernel
theorem dX1_lastBucket_17 : decode cX1_lastBucket 17 = .ok (.ireturn, 1) := by decide +kernel
theorem dX1_lastBucket_18 : decode cX1_lastBucket 18 = .ok (.iinc 1 (-1), 3) := by decide +kernel
theorem dX1_lastBucket_21 : decode cX1_lastBucket 21 = .ok (.goto (-18), 3) := by decide +kernel
theorem dX1_lastBucket_24 : decode cX1_lastBucket 24 = .ok (.iconst (-1), 1) := by decide +kernel
theorem dX1_lastBucket_25 : decode cX1_lastBucket 25 = .ok (.ireturn, 1) := by decide +kernel
theorem dX1_leastHeat_0 : decode cX1_leastHeat 0 = .ok (.sipush 1023, 3) := by decide +kernel
theorem dX1_leastHeat_3 : decode cX1_leastHeat 3 = .ok (.istore_n 1, 1) := by decide +kernel
theorem dX1_leastHeat_4 : decode cX1_leastHeat 4 = .ok (.aload_n 0, 1) := by decide +kernel
theorem dX1_leastHeat_5 : decode cX1_leastHeat 5 = .ok (.aload_n 0, 1) := by decide +kernel
theorem dX1_leastHeat_6 : decode cX1_leastHeat 6 = .ok (.invokevirtual 57, 3) := by decide +kernel
theorem dX1_leastHeat_9 : decode cX1_leastHeat 9 = .ok (.invokevirtual 47, 3) := by decide +kernel
theorem dX1_leastHeat_12 : decode cX1_leastHeat 12 = .ok (.istore_n 2, 1) := by decide +kernel
theorem dX1_leastHeat_13 : decode cX1_leastHeat 13 = .ok (.iconst 0, 1) := by decide +kernel
theorem dX1_leastHeat_14 : decode cX1_leastHeat 14 = .ok (.istore_n 3, 1) := by decide +kernel
theorem dX1_leastHeat_15 : decode cX1_leastHeat 15 = .ok (.iload_n 3, 1) := by decide +kernel
theorem dX1_leastHeat_16 : decode cX1_leastHeat 16 = .ok (.iload_n 2, 1) := by decide +kernel
theorem dX1_leastHeat_17 : decode cX1_leastHeat 17 = .ok (.if_icmp .ge 29, 3) := by decide +kernel
theorem dX1_leastHeat_20 : decode cX1_leastHeat 20 = .ok (.iload_n 1, 1) := by decide +kernel
theorem dX1_leastHeat_21 : decode cX1_leastHeat 21 = .ok (.aload_n 0, 1) := by decide +kernel
theorem dX1_leastHeat_22 : decode cX1_leastHeat 22 = .ok (.getfield 25, 3) := by decide +kernel
theorem dX1_leastHeat_25 : decode cX1_leastHeat 25 = .ok (.aload_n 0, 1) := by decide +kernel
theorem dX1_leastHeat_26 : decode cX1_leastHeat 26 = .ok (.getfield 12, 3) := by decide +kernel
theorem dX1_leastHeat_29 : decode cX1_leastHeat 29 = .ok (.iload_n 3, 1) := by decide +kernel
theorem dX1_leastHeat_30 : decode cX1_leastHeat 30 = .ok (.invokevirtual 54, 3) := by decide +kernel
theorem dX1_leastHeat_33 : decode cX1_leastHeat 33 = .ok (.invokevirtual 60, 3) := by decide +kernel
theorem dX1_leastHeat_36 : decode cX1_leastHeat 36 = .ok (.invokestatic 65, 3) := by decide +kernel
theorem dX1_leastHeat_39 : decode cX1_leastHeat 39 = .ok (.istore_n 1, 1) := by decide +kernel
theorem dX1_leastHeat_40 : decode cX1_leastHeat 40 = .ok (.iinc 3 1, 3) := by decide +kernel
theorem dX1_leastHeat_43 : decode cX1_leastHeat 43 = .ok (.goto (-28), 3) := by decide +kernel
theorem dX1_leastHeat_46 : decode cX1_leastHeat 46 = .ok (.iload_n 1, 1) := by decide +kernel
theorem dX1_leastHeat_47 : decode cX1_leastHeat 47 = .ok (.ireturn, 1) := by decide +kernel
theorem dX1_mostHeat_0 : decode cX1_mostHeat 0 = .ok (.iconst (-1), 1) := by decide +kernel
theorem dX1_mostHeat_1 : decode cX1_mostHeat 1 = .ok (.istore_n 1, 1) := by decide +kernel
theorem dX1_mostHeat_2 : decode cX1_mostHeat 2 = .ok (.iconst 0, 1) := by decide +kernel
theorem dX1_mostHeat_3 : decode cX1_mostHeat 3 = .ok (.istore_n 2, 1) := by decide +kernel
theorem dX1_mostHeat_4 : decode cX1_mostHeat 4 = .ok (.iload_n 2, 1) := by decide +kernel
theorem dX1_mostHeat_5 : decode cX1_mostHeat 5 = .ok (.aload_n 0, 1) := by decide +kernel
theorem dX1_mostHeat_6 : decode cX1_mostHeat 6 = .ok (.getfield 12, 3) := by decide +kernel
theorem dX1_mostHeat_9 : decode cX1_mostHeat 9 = .ok (.invokevirtual 33, 3) := by decide +kernel
theorem dX1_mostHeat_12 : decode cX1_mostHeat 12 = .ok (.if_icmp .ge 29, 3) := by decide +kernel
theorem dX1_mostHeat_15 : decode cX1_mostHeat 15 = .ok (.iload_n 1, 1) := by decide +kernel
theorem dX1_mostHeat_16 : decode cX1_mostHeat 16 = .ok (.aload_n 0, 1) := by decide +kernel
theorem dX1_mostHeat_17 : decode cX1_mostHeat 17 = .ok (.getfield 25, 3) := by decide +kernel
theorem dX1_mostHeat_20 : decode cX1_mostHeat 20 = .ok (.aload_n 0, 1) := by decide +kernel
theorem dX1_mostHeat_21 : decode cX1_mostHeat 21 = .ok (.getfield 12, 3) := by decide +kernel
theorem dX1_mostHeat_24 : decode cX1_mostHeat 24 = .ok (.iload_n 2, 1) := by decide +kernel
theorem dX1_mostHeat_25 : decode cX1_mostHeat 25 = .ok (.invokevirtual 54, 3) := by decide +kernel
theorem dX1_mostHeat_28 : decode cX1_mostHeat 28 = .ok (.invokevirtual 60, 3) := by decide +kernel
theorem dX1_mostHeat_31 : decode cX1_mostHeat 31 = .ok (.invokestatic 71, 3) := by decide +kernel
theorem dX1_mostHeat_34 : decode cX1_mostHeat 34 = .ok (.istore_n 1, 1) := by decide +kernel
theorem dX1_mostHeat_35 : decode cX1_mostHeat 35 = .ok (.iinc 2 1, 3) := by decide +kernel
theorem dX1_mostHeat_38 : decode cX1_mostHeat 38 = .ok (.goto (-34), 3) := by decide +kernel
theorem dX1_mostHeat_41 : decode cX1_mostHeat 41 = .ok (.iload_n 1, 1) := by decide +kernel
theorem dX1_mostHeat_42 : decode cX1_mostHeat 42 = .ok (.ireturn, 1) := by decide +kernel
theorem dX1_heatInAll_0 : decode cX1_heatInAll 0 = .ok (.iconst 0, 1) := by decide +kernel
theorem dX1_heatInAll_1 : decode cX1_heatInAll 1 = .ok (.istore_n 1, 1) := by decide +kernel
theorem dX1_heatInAll_2 : decode cX1_heatInAll 2 = .ok (.iconst 0, 1) := by decide +kernel
theorem dX1_heatInAll_3 : decode cX1_heatInAll 3 = .ok (.istore_n 2, 1) := by decide +kernel
theorem dX1_heatInAll_4 : decode cX1_heatInAll 4 = .ok (.iload_n 2, 1) := by decide +kernel
theorem dX1_heatInAll_5 : decode cX1_heatInAll 5 = .ok (.aload_n 0, 1) := by decide +kernel
theorem dX1_heatInAll_6 : decode cX1_heatInAll 6 = .ok (.getfield 12, 3) := by decide +kernel
theorem dX1_heatInAll_9 : decode cX1_heatInAll 9 = .ok (.invokevirtual 33, 3) := by decide +kernel
theorem dX1_heatInAll_12 : decode cX1_heatInAll 12 = .ok (.if_icmp .ge 27, 3) := by decide +kernel
theorem dX1_heatInAll_15 : decode cX1_heatInAll 15 = .ok (.iload_n 1, 1) := by decide +kernel
theorem dX1_heatInAll_16 : decode cX1_heatInAll 16 = .ok (.aload_n 0, 1) := by decide +kernel
theorem dX1_heatInAll_17 : decode cX1_heatInAll 17 = .ok (.getfield 25, 3) := by decide +kernel
theorem dX1_heatInAll_20 : decode cX1_heatInAll 20 = .ok (.aload_n 0, 1) := by decide +kernel
theorem dX1_heatInAll_21 : decode cX1_heatInAll 21 = .ok (.getfield 12, 3) := by decide +kernel
theorem dX1_heatInAll_24 : decode cX1_heatInAll 24 = .ok (.iload_n 2, 1) := by decide +kernel
theorem dX1_heatInAll_25 : decode cX1_heatInAll 25 = .ok (.invokevirtual 54, 3) := by decide +kernel
theorem dX1_heatInAll_28 : decode cX1_heatInAll 28 = .ok (.invokevirtual 60, 3) := by decide +kernel
theorem dX1_heatInAll_31 : decode cX1_heatInAll 31 = .ok (.iadd, 1) := by decide +kernel
theorem dX1_heatInAll_32 : decode cX1_heatInAll 32 = .ok (.istore_n 1, 1) := by decide +kernel
theorem dX1_heatInAll_33 : decode cX1_heatInAll 33 = .ok (.iinc 2 1, 3) := by decide +kernel
theorem dX1_heatInAll_36 : decode cX1_heatInAll 36 = .ok (.goto (-32), 3) := by decide +kernel
theorem dX1_heatInAll_39 : decode cX1_heatInAll 39 = .ok (.iload_n 1, 1) := by decide +kernel
theorem dX1_heatInAll_40 : decode cX1_heatInAll 40 = .ok (.ireturn, 1) := by decide +kernel
theorem dX1_put_0 : decode cX1_put 0 = .ok (.aload_n 0, 1) := by decide +kernel
theorem dX1_put_1 : decode cX1_put 1 = .ok (.aload_n 0, 1) := by decide +kernel
theorem dX1_put_2 : decode cX1_put 2 = .ok (.getfield 25, 3) := by decide +kernel
theorem dX1_put_5 : decode cX1_put 5 = .ok (.iload_n 1, 1) := by decide +kernel
theorem dX1_put_6 : decode cX1_put 6 = .ok (.invokevirtual 60, 3) := by decide +kernel
theorem dX1_put_9 : decode cX1_put 9 = .ok (.invokevirtual 74, 3) := by decide +kernel
theorem dX1_put_12 : decode cX1_put 12 = .ok (.istore_n 2, 1) := by decide +kernel
theorem dX1_put_13 : decode cX1_put 13 = .ok (.aload_n 0, 1) := by decide +kernel
theorem dX1_put_14 : decode cX1_put 14 = .ok (.getfield 12, 3) := by decide +kernel
theorem dX1_put_17 : decode cX1_put 17 = .ok (.aload_n 0, 1) := by decide +kernel
theorem dX1_put_18 : decode cX1_put 18 = .ok (.iload_n 2, 1) := by decide +kernel
theorem dX1_put_19 : decode cX1_put 19 = .ok (.invokevirtual 51, 3) := by decide +kernel
theorem dX1_put_22 : decode cX1_put 22 = .ok (.aload_n 0, 1) := by decide +kernel
theorem dX1_put_23 : decode cX1_put 23 = .ok (.iload_n 2, 1) := by decide +kernel
theorem dX1_put_24 : decode cX1_put 24 = .ok (.invokevirtual 47, 3) := by decide +kernel
theorem dX1_put_27 : decode cX1_put 27 = .ok (.iadd, 1) := by decide +kernel
theorem dX1_put_28 : decode cX1_put 28 = .ok (.iload_n 1, 1) := by decide +kernel
theorem dX1_put_29 : decode cX1_put 29 = .ok (.invokevirtual 77, 3) := by decide +kernel
theorem dX1_put_32 : decode cX1_put 32 = .ok (.aload_n 0, 1) := by decide +kernel
theorem dX1_put_33 : decode cX1_put 33 = .ok (.iload_n 2, 1) := by decide +kernel
theorem dX1_put_34 : decode cX1_put 34 = .ok (.iconst 1, 1) := by decide +kernel
theorem dX1_put_35 : decode cX1_put 35 = .ok (.invokevirtual 81, 3) := by decide +kernel
theorem dX1_put_38 : decode cX1_put 38 = .ok (.return_, 1) := by decide +kernel
theorem dX1_takeOut_0 : decode cX1_takeOut 0 = .ok (.aload_n 0, 1) := by decide +kernel
theorem dX1_takeOut_1 : decode cX1_takeOut 1 = .ok (.getfield 12, 3) := by decide +kernel
theorem dX1_takeOut_4 : decode cX1_takeOut 4 = .ok (.iload_n 1, 1) := by decide +kernel
theorem dX1_takeOut_5 : decode cX1_takeOut 5 = .ok (.invokevirtual 84, 3) := by decide +kernel
theorem dX1_takeOut_8 : decode cX1_takeOut 8 = .ok (.istore_n 2, 1) := by decide +kernel
theorem dX1_takeOut_9 : decode cX1_takeOut 9 = .ok (.iload_n 2, 1) := by decide +kernel
theorem dX1_takeOut_10 : decode cX1_takeOut 10 = .ok (.iconst (-1), 1) := by decide +kernel
theorem dX1_takeOut_11 : decode cX1_takeOut 11 = .ok (.if_icmp .eq 28, 3) := by decide +kernel
theorem dX1_takeOut_14 : decode cX1_takeOut 14 = .ok (.aload_n 0, 1) := by decide +kernel
theorem dX1_takeOut_15 : decode cX1_takeOut 15 = .ok (.getfield 12, 3) := by decide +kernel
theorem dX1_takeOut_18 : decode cX1_takeOut 18 = .ok (.iload_n 2, 1) := by decide +kernel
theorem dX1_takeOut_19 : decode cX1_takeOut 19 = .ok (.invokevirtual 87, 3) := by decide +kernel
theorem dX1_takeOut_22 : decode cX1_takeOut 22 = .ok (.aload_n 0, 1) := by decide +kernel
theorem dX1_takeOut_23 : decode cX1_takeOut 23 = .ok (.aload_n 0, 1) := by decide +kernel
theorem dX1_takeOut_24 : decode cX1_takeOut 24 = .ok (.aload_n 0, 1) := by decide +kernel
theorem dX1_takeOut_25 : decode cX1_takeOut 25 = .ok (.getfield 25, 3) := by decide +kernel
theorem dX1_takeOut_28 : decode cX1_takeOut 28 = .ok (.iload_n 1, 1) := by decide +kernel
theorem dX1_takeOut_29 : decode cX1_takeOut 29 = .ok (.invokevirtual 60, 3) := by decide +kernel
theorem dX1_takeOut_32 : decode cX1_takeOut 32 = .ok (.invokevirtual 74, 3) := by decide +kernel
theorem dX1_takeOut_35 : decode cX1_takeOut 35 = .ok (.iconst (-1), 1) := by decide +kernel
theorem dX1_takeOut_36 : decode cX1_takeOut 36 = .ok (.invokevirtual 81, 3) := by decide +kernel
theorem dX1_takeOut_39 : decode cX1_takeOut 39 = .ok (.return_, 1) := by decide +kernel
theorem dX1_moveIn_0 : decode cX1_moveIn 0 = .ok (.aload_n 1, 1) := by decide +kernel
theorem dX1_moveIn_1 : decode cX1_moveIn 1 = .ok (.invokevirtual 33, 3) := by decide +kernel
theorem dX1_moveIn_4 : decode cX1_moveIn 4 = .ok (.istore_n 2, 1) := by decide +kernel
theorem dX1_moveIn_5 : decode cX1_moveIn 5 = .ok (.iconst 0, 1) := by decide +kernel
theorem dX1_moveIn_6 : decode cX1_moveIn 6 = .ok (.istore_n 3, 1) := by decide +kernel
theorem dX1_moveIn_7 : decode cX1_moveIn 7 = .ok (.iload_n 3, 1) := by decide +kernel
theorem dX1_moveIn_8 : decode cX1_moveIn 8 = .ok (.iload_n 2, 1) := by decide +kernel
theorem dX1_moveIn_9 : decode cX1_moveIn 9 = .ok (.if_icmp .ge 38, 3) := by decide +kernel
theorem dX1_moveIn_12 : decode cX1_moveIn 12 = .ok (.aload_n 1, 1) := by decide +kernel
theorem dX1_moveIn_13 : decode cX1_moveIn 13 = .ok (.iload_n 3, 1) := by decide +kernel
theorem dX1_moveIn_14 : decode cX1_moveIn 14 = .ok (.invokevirtual 54, 3) := by decide +kernel
theorem dX1_moveIn_17 : decode cX1_moveIn 17 = .ok (.istore 4, 2) := by decide +kernel
theorem dX1_moveIn_19 : decode cX1_moveIn 19 = .ok (.aload_n 0, 1) := by decide +kernel
theorem dX1_moveIn_20 : decode cX1_moveIn 20 = .ok (.iload 4, 2) := by decide +kernel
theorem dX1_moveIn_22 : decode cX1_moveIn 22 = .ok (.invokevirtual 91, 3) := by decide +kernel
theorem dX1_moveIn_25 : decode cX1_moveIn 25 = .ok (.aload_n 0, 1) := by decide +kernel
theorem dX1_moveIn_26 : decode cX1_moveIn 26 = .ok (.getfield 29, 3) := by decide +kernel
theorem dX1_moveIn_29 : decode cX1_moveIn 29 = .ok (.ifCond .eq 12, 3) := by decide +kernel
theorem dX1_moveIn_32 : decode cX1_moveIn 32 = .ok (.aload_n 0, 1) := by decide +kernel
theorem dX1_moveIn_33 : decode cX1_moveIn 33 = .ok (.getfield 25, 3) := by decide +kernel
theorem dX1_moveIn_36 : decode cX1_moveIn 36 = .ok (.iload 4, 2) := by decide +kernel
theorem dX1_moveIn_38 : decode cX1_moveIn 38 = .ok (.invokevirtual 94, 3) := by decide +kernel
theorem dX1_moveIn_41 : decode cX1_moveIn 41 = .ok (.iinc 3 1, 3) := by decide +kernel
theorem dX1_moveIn_44 : decode cX1_moveIn 44 = .ok (.goto (-37), 3) := by decide +kernel
theorem dX1_moveIn_47 : decode cX1_moveIn 47 = .ok (.aload_n 0, 1) := by decide +kernel
theorem dX1_moveIn_48 : decode cX1_moveIn 48 = .ok (.dup, 1) := by decide +kernel
theorem dX1_moveIn_49 : decode cX1_moveIn 49 = .ok (.getfield 41, 3) := by decide +kernel
theorem dX1_moveIn_52 : decode cX1_moveIn 52 = .ok (.iload_n 2, 1) := by decide +kernel
theorem dX1_moveIn_53 : decode cX1_moveIn 53 = .ok (.iadd, 1) := by decide +kernel
theorem dX1_moveIn_54 : decode cX1_moveIn 54 = .ok (.putfield 41, 3) := by decide +kernel
theorem dX1_moveIn_57 : decode cX1_moveIn 57 = .ok (.iload_n 2, 1) := by decide +kernel
theorem dX1_moveIn_58 : decode cX1_moveIn 58 = .ok (.ireturn, 1) := by decide +kernel
theorem dX1_rakeOnce_0 : decode cX1_rakeOnce 0 = .ok (.aload_n 0, 1) := by decide +kernel
theorem dX1_rakeOnce_1 : decode cX1_rakeOnce 1 = .ok (.invokevirtual 57, 3) := by decide +kernel
theorem dX1_rakeOnce_4 : decode cX1_rakeOnce 4 = .ok (.istore_n 1, 1) := by decide +kernel
theorem dX1_rakeOnce_5 : decode cX1_rakeOnce 5 = .ok (.iload_n 1, 1) := by decide +kernel
theorem dX1_rakeOnce_6 : decode cX1_rakeOnce 6 = .ok (.iconst (-1), 1) := by decide +kernel
theorem dX1_rakeOnce_7 : decode cX1_rakeOnce 7 = .ok (.if_icmp .ne 5, 3) := by decide +kernel
theorem dX1_rakeOnce_10 : decode cX1_rakeOnce 10 = .ok (.iconst (-1), 1) := by decide +kernel
theorem dX1_rakeOnce_11 : decode cX1_rakeOnce 11 = .ok (.ireturn, 1) := by decide +kernel
theorem dX1_rakeOnce_12 : decode cX1_rakeOnce 12 = .ok (.iload_n 1, 1) := by decide +kernel
theorem dX1_rakeOnce_13 : decode cX1_rakeOnce 13 = .ok (.ifCond .le 25, 3) := by decide +kernel
theorem dX1_rakeOnce_16 : decode cX1_rakeOnce 16 = .ok (.aload_n 0, 1) := by decide +kernel
theorem dX1_rakeOnce_17 : decode cX1_rakeOnce 17 = .ok (.aload_n 0, 1) := by decide +kernel
theorem dX1_rakeOnce_18 : decode cX1_rakeOnce 18 = .ok (.invokevirtual 97, 3) := by decide +kernel
theorem dX1_rakeOnce_21 : decode cX1_rakeOnce 21 = .ok (.putfield 37, 3) := by decide +kernel
theorem dX1_rakeOnce_24 : decode cX1_rakeOnce 24 = .ok (.aload_n 0, 1) := by decide +kernel
theorem dX1_rakeOnce_25 : decode cX1_rakeOnce 25 = .ok (.iload_n 1, 1) := by decide +kernel
theorem dX1_rakeOnce_26 : decode cX1_rakeOnce 26 = .ok (.invokevirtual 100, 3) := by decide +kernel
theorem dX1_rakeOnce_29 : decode cX1_rakeOnce 29 = .ok (.aload_n 0, 1) := by decide +kernel
theorem dX1_rakeOnce_30 : decode cX1_rakeOnce 30 = .ok (.aload_n 0, 1) := by decide +kernel
theorem dX1_rakeOnce_31 : decode cX1_rakeOnce 31 = .ok (.getfield 18, 3) := by decide +kernel
theorem dX1_rakeOnce_34 : decode cX1_rakeOnce 34 = .ok (.invokevirtual 103, 3) := by decide +kernel
theorem dX1_rakeOnce_37 : decode cX1_rakeOnce 37 = .ok (.pop, 1) := by decide +kernel
theorem dX1_rakeOnce_38 : decode cX1_rakeOnce 38 = .ok (.aload_n 0, 1) := by decide +kernel
theorem dX1_rakeOnce_39 : decode cX1_rakeOnce 39 = .ok (.getfield 12, 3) := by decide +kernel
theorem dX1_rakeOnce_42 : decode cX1_rakeOnce 42 = .ok (.iconst 0, 1) := by decide +kernel
theorem dX1_rakeOnce_43 : decode cX1_rakeOnce 43 = .ok (.invokevirtual 54, 3) := by decide +kernel
theorem dX1_rakeOnce_46 : decode cX1_rakeOnce 46 = .ok (.istore_n 2, 1) := by decide +kernel
theorem dX1_rakeOnce_47 : decode cX1_rakeOnce 47 = .ok (.aload_n 0, 1) := by decide +kernel
theorem dX1_rakeOnce_48 : decode cX1_rakeOnce 48 = .ok (.iload_n 2, 1) := by decide +kernel
theorem dX1_rakeOnce_49 : decode cX1_rakeOnce 49 = .ok (.invokevirtual 107, 3) := by decide +kernel
theorem dX1_rakeOnce_52 : decode cX1_rakeOnce 52 = .ok (.aload_n 0, 1) := by decide +kernel
theorem dX1_rakeOnce_53 : decode cX1_rakeOnce 53 = .ok (.dup, 1) := by decide +kernel
theorem dX1_rakeOnce_54 : decode cX1_rakeOnce 54 = .ok (.getfield 44, 3) := by decide +kernel
theorem dX1_rakeOnce_57 : decode cX1_rakeOnce 57 = .ok (.iconst 1, 1) := by decide +kernel
theorem dX1_rakeOnce_58 : decode cX1_rakeOnce 58 = .ok (.iadd, 1) := by decide +kernel
theorem dX1_rakeOnce_59 : decode cX1_rakeOnce 59 = .ok (.putfield 44, 3) := by decide +kernel
theorem dX1_rakeOnce_62 : decode cX1_rakeOnce 62 = .ok (.iload_n 2, 1) := by decide +kernel
theorem dX1_rakeOnce_63 : decode cX1_rakeOnce 63 = .ok (.ireturn, 1) := by decide +kernel
theorem dX1_rakeOften_0 : decode cX1_rakeOften 0 = .ok (.iconst 0, 1) := by decide +kernel
theorem dX1_rakeOften_1 : decode cX1_rakeOften 1 = .ok (.istore_n 2, 1) := by decide +kernel
theorem dX1_rakeOften_2 : decode cX1_rakeOften 2 = .ok (.iload_n 2, 1) := by decide +kernel
theorem dX1_rakeOften_3 : decode cX1_rakeOften 3 = .ok (.iload_n 1, 1) := by decide +kernel
theorem dX1_rakeOften_4 : decode cX1_rakeOften 4 = .ok (.if_icmp .ge 14, 3) := by decide +kernel
theorem dX1_rakeOften_7 : decode cX1_rakeOften 7 = .ok (.aload_n 0, 1) := by decide +kernel
theorem dX1_rakeOften_8 : decode cX1_rakeOften 8 = .ok (.invokevirtual 110, 3) := by decide +kernel
theorem dX1_rakeOften_11 : decode cX1_rakeOften 11 = .ok (.pop, 1) := by decide +kernel
theorem dX1_rakeOften_12 : decode cX1_rakeOften 12 = .ok (.iinc 2 1, 3) := by decide +kernel
theorem dX1_rakeOften_15 : decode cX1_rakeOften 15 = .ok (.goto (-13), 3) := by decide +kernel
theorem dX1_rakeOften_18 : decode cX1_rakeOften 18 = .ok (.return_, 1) := by decide +kernel
theorem dX1_riseTo_0 : decode cX1_riseTo 0 = .ok (.aload_n 0, 1) := by decide +kernel
theorem dX1_riseTo_1 : decode cX1_riseTo 1 = .ok (.bipush 10, 2) := by decide +kernel
theorem dX1_riseTo_3 : decode cX1_riseTo 3 = .ok (.invokevirtual 100, 3) := by decide +kernel
theorem dX1_riseTo_6 : decode cX1_riseTo 6 = .ok (.aload_n 0, 1) := by decide +kernel
theorem dX1_riseTo_7 : decode cX1_riseTo 7 = .ok (.iload_n 1, 1) := by decide +kernel
theorem dX1_riseTo_8 : decode cX1_riseTo 8 = .ok (.putfield 37, 3) := by decide +kernel
theorem dX1_riseTo_11 : decode cX1_riseTo 11 = .ok (.aload_n 0, 1) := by decide +kernel
theorem dX1_riseTo_12 : decode cX1_riseTo 12 = .ok (.aload_n 0, 1) := by decide +kernel
theorem dX1_riseTo_13 : decode cX1_riseTo 13 = .ok (.getfield 18, 3) := by decide +kernel
theorem dX1_riseTo_16 : decode cX1_riseTo 16 = .ok (.invokevirtual 103, 3) := by decide +kernel
theorem dX1_riseTo_19 : decode cX1_riseTo 19 = .ok (.ireturn, 1) := by decide +kernel
theorem dX1_pourOut_0 : decode cX1_pourOut 0 = .ok (.aload_n 0, 1) := by decide +kernel
theorem dX1_pourOut_1 : decode cX1_pourOut 1 = .ok (.bipush 10, 2) := by decide +kernel
theorem dX1_pourOut_3 : decode cX1_pourOut 3 = .ok (.invokevirtual 100, 3) := by decide +kernel
theorem dX1_pourOut_6 : decode cX1_pourOut 6 = .ok (.aload_n 0, 1) := by decide +kernel
theorem dX1_pourOut_7 : decode cX1_pourOut 7 = .ok (.iconst 0, 1) := by decide +kernel
theorem dX1_pourOut_8 : decode cX1_pourOut 8 = .ok (.putfield 37, 3) := by decide +kernel
theorem dX1_pourOut_11 : decode cX1_pourOut 11 = .ok (.aload_n 0, 1) := by decide +kernel
theorem dX1_pourOut_12 : decode cX1_pourOut 12 = .ok (.getfield 18, 3) := by decide +kernel
theorem dX1_pourOut_15 : decode cX1_pourOut 15 = .ok (.areturn, 1) := by decide +kernel
theorem dX1_becomeLike_0 : decode cX1_becomeLike 0 = .ok (.aload_n 0, 1) := by decide +kernel
theorem dX1_becomeLike_1 : decode cX1_becomeLike 1 = .ok (.getfield 12, 3) := by decide +kernel
theorem dX1_becomeLike_4 : decode cX1_becomeLike 4 = .ok (.aload_n 1, 1) := by decide +kernel
theorem dX1_becomeLike_5 : decode cX1_becomeLike 5 = .ok (.getfield 12, 3) := by decide +kernel
theorem dX1_becomeLike_8 : decode cX1_becomeLike 8 = .ok (.invokevirtual 113, 3) := by decide +kernel
theorem dX1_becomeLike_11 : decode cX1_becomeLike 11 = .ok (.iconst 0, 1) := by decide +kernel
theorem dX1_becomeLike_12 : decode cX1_becomeLike 12 = .ok (.istore_n 2, 1) := by decide +kernel
theorem dX1_becomeLike_13 : decode cX1_becomeLike 13 = .ok (.iload_n 2, 1) := by decide +kernel
theorem dX1_becomeLike_14 : decode cX1_becomeLike 14 = .ok (.bipush 11, 2) := by decide +kernel
theorem dX1_becomeLike_16 : decode cX1_becomeLike 16 = .ok (.if_icmp .ge 21, 3) := by decide +kernel
theorem dX1_becomeLike_19 : decode cX1_becomeLike 19 = .ok (.aload_n 0, 1) := by decide +kernel
theorem dX1_becomeLike_20 : decode cX1_becomeLike 20 = .ok (.getfield 21, 3) := by decide +kernel
theorem dX1_becomeLike_23 : decode cX1_becomeLike 23 = .ok (.iload_n 2, 1) := by decide +kernel
theorem dX1_becomeLike_24 : decode cX1_becomeLike 24 = .ok (.aload_n 1, 1) := by decide +kernel
theorem dX1_becomeLike_25 : decode cX1_becomeLike 25 = .ok (.getfield 21, 3) := by decide +kernel
theorem dX1_becomeLike_28 : decode cX1_becomeLike 28 = .ok (.iload_n 2, 1) := by decide +kernel
theorem dX1_becomeLike_29 : decode cX1_becomeLike 29 = .ok (.iaload, 1) := by decide +kernel
theorem dX1_becomeLike_30 : decode cX1_becomeLike 30 = .ok (.iastore, 1) := by decide +kernel
theorem dX1_becomeLike_31 : decode cX1_becomeLike 31 = .ok (.iinc 2 1, 3) := by decide +kernel
theorem dX1_becomeLike_34 : decode cX1_becomeLike 34 = .ok (.goto (-21), 3) := by decide +kernel
theorem dX1_becomeLike_37 : decode cX1_becomeLike 37 = .ok (.aload_n 0, 1) := by decide +kernel
theorem dX1_becomeLike_38 : decode cX1_becomeLike 38 = .ok (.aload_n 1, 1) := by decide +kernel
theorem dX1_becomeLike_39 : decode cX1_becomeLike 39 = .ok (.getfield 37, 3) := by decide +kernel
theorem dX1_becomeLike_42 : decode cX1_becomeLike 42 = .ok (.putfield 37, 3) := by decide +kernel
theorem dX1_becomeLike_45 : decode cX1_becomeLike 45 = .ok (.aload_n 0, 1) := by decide +kernel
theorem dX1_becomeLike_46 : decode cX1_becomeLike 46 = .ok (.iconst 0, 1) := by decide +kernel
theorem dX1_becomeLike_47 : decode cX1_becomeLike 47 = .ok (.putfield 41, 3) := by decide +kernel
theorem dX1_becomeLike_50 : decode cX1_becomeLike 50 = .ok (.aload_n 0, 1) := by decide +kernel
theorem dX1_becomeLike_51 : decode cX1_becomeLike 51 = .ok (.iconst 0, 1) := by decide +kernel
theorem dX1_becomeLike_52 : decode cX1_becomeLike 52 = .ok (.putfield 44, 3) := by decide +kernel
theorem dX1_becomeLike_55 : decode cX1_becomeLike 55 = .ok (.return_, 1) := by decide +kernel
theorem dX1_takeBucketsTo_0 : decode cX1_takeBucketsTo 0 = .ok (.aload_n 0, 1) := by decide +kernel
theorem dX1_takeBucketsTo_1 : decode cX1_takeBucketsTo 1 = .ok (.getfield 18, 3) := by decide +kernel
theorem dX1_takeBucketsTo_4 : decode cX1_takeBucketsTo 4 = .ok (.aload_n 0, 1) := by decide +kernel
theorem dX1_takeBucketsTo_5 : decode cX1_takeBucketsTo 5 = .ok (.getfield 12, 3) := by decide +kernel
theorem dX1_takeBucketsTo_8 : decode cX1_takeBucketsTo 8 = .ok (.aload_n 0, 1) := by decide +kernel
theorem dX1_takeBucketsTo_9 : decode cX1_takeBucketsTo 9 = .ok (.iload_n 1, 1) := by decide +kernel
theorem dX1_takeBucketsTo_10 : decode cX1_takeBucketsTo 10 = .ok (.invokevirtual 51, 3) := by decide +kernel
theorem dX1_takeBucketsTo_13 : decode cX1_takeBucketsTo 13 = .ok (.aload_n 0, 1) := by decide +kernel
theorem dX1_takeBucketsTo_14 : decode cX1_takeBucketsTo 14 = .ok (.iload_n 1, 1) := by decide +kernel
theorem dX1_takeBucketsTo_15 : decode cX1_takeBucketsTo 15 = .ok (.invokevirtual 47, 3) := by decide +kernel
theorem dX1_takeBucketsTo_18 : decode cX1_takeBucketsTo 18 = .ok (.iadd, 1) := by decide +kernel
theorem dX1_takeBucketsTo_19 : decode cX1_takeBucketsTo 19 = .ok (.invokevirtual 117, 3) := by decide +kernel
theorem dX1_takeBucketsTo_22 : decode cX1_takeBucketsTo 22 = .ok (.iconst 0, 1) := by decide +kernel
theorem dX1_takeBucketsTo_23 : decode cX1_takeBucketsTo 23 = .ok (.istore_n 2, 1) := by decide +kernel
theorem dX1_takeBucketsTo_24 : decode cX1_takeBucketsTo 24 = .ok (.iload_n 2, 1) := by decide +kernel
theorem dX1_takeBucketsTo_25 : decode cX1_takeBucketsTo 25 = .ok (.iload_n 1, 1) := by decide +kernel
theorem dX1_takeBucketsTo_26 : decode cX1_takeBucketsTo 26 = .ok (.if_icmp .gt 22, 3) := by decide +kernel
theorem dX1_takeBucketsTo_29 : decode cX1_takeBucketsTo 29 = .ok (.iload_n 2, 1) := by decide +kernel
theorem dX1_takeBucketsTo_30 : decode cX1_takeBucketsTo 30 = .ok (.bipush 11, 2) := by decide +kernel
theorem dX1_takeBucketsTo_32 : decode cX1_takeBucketsTo 32 = .ok (.if_icmp .ge 16, 3) := by decide +kernel
theorem dX1_takeBucketsTo_35 : decode cX1_takeBucketsTo 35 = .ok (.aload_n 0, 1) := by decide +kernel
theorem dX1_takeBucketsTo_36 : decode cX1_takeBucketsTo 36 = .ok (.getfield 21, 3) := by decide +kernel
theorem dX1_takeBucketsTo_39 : decode cX1_takeBucketsTo 39 = .ok (.iload_n 2, 1) := by decide +kernel
theorem dX1_takeBucketsTo_40 : decode cX1_takeBucketsTo 40 = .ok (.iconst 0, 1) := by decide +kernel
theorem dX1_takeBucketsTo_41 : decode cX1_takeBucketsTo 41 = .ok (.iastore, 1) := by decide +kernel
theorem dX1_takeBucketsTo_42 : decode cX1_takeBucketsTo 42 = .ok (.iinc 2 1, 3) := by decide +kernel
theorem dX1_takeBucketsTo_45 : decode cX1_takeBucketsTo 45 = .ok (.goto (-21), 3) := by decide +kernel
theorem dX1_takeBucketsTo_48 : decode cX1_takeBucketsTo 48 = .ok (.return_, 1) := by decide +kernel
theorem dX1_startOf_0 : decode cX1_startOf 0 = .ok (.iconst 0, 1) := by decide +kernel
theorem dX1_startOf_1 : decode cX1_startOf 1 = .ok (.istore_n 2, 1) := by decide +kernel
theorem dX1_startOf_2 : decode cX1_startOf 2 = .ok (.iconst 0, 1) := by decide +kernel
theorem dX1_startOf_3 : decode cX1_startOf 3 = .ok (.istore_n 3, 1) := by decide +kernel
theorem dX1_startOf_4 : decode cX1_startOf 4 = .ok (.iload_n 3, 1) := by decide +kernel
theorem dX1_startOf_5 : decode cX1_startOf 5 = .ok (.iload_n 1, 1) := by decide +kernel
theorem dX1_startOf_6 : decode cX1_startOf 6 = .ok (.if_icmp .ge 24, 3) := by decide +kernel
theorem dX1_startOf_9 : decode cX1_startOf 9 = .ok (.iload_n 3, 1) := by decide +kernel
theorem dX1_startOf_10 : decode cX1_startOf 10 = .ok (.bipush 11, 2) := by decide +kernel
theorem dX1_startOf_12 : decode cX1_startOf 12 = .ok (.if_icmp .ge 18, 3) := by decide +kernel
theorem dX1_startOf_15 : decode cX1_startOf 15 = .ok (.iload_n 2, 1) := by decide +kernel
theorem dX1_startOf_16 : decode cX1_startOf 16 = .ok (.aload_n 0, 1) := by decide +kernel
theorem dX1_startOf_17 : decode cX1_startOf 17 = .ok (.getfield 21, 3) := by decide +kernel
theorem dX1_startOf_20 : decode cX1_startOf 20 = .ok (.iload_n 3, 1) := by decide +kernel
theorem dX1_startOf_21 : decode cX1_startOf 21 = .ok (.iaload, 1) := by decide +kernel
theorem dX1_startOf_22 : decode cX1_startOf 22 = .ok (.iadd, 1) := by decide +kernel
theorem dX1_startOf_23 : decode cX1_startOf 23 = .ok (.istore_n 2, 1) := by decide +kernel
theorem dX1_startOf_24 : decode cX1_startOf 24 = .ok (.iinc 3 1, 3) := by decide +kernel
theorem dX1_startOf_27 : decode cX1_startOf 27 = .ok (.goto (-23), 3) := by decide +kernel
theorem dX1_startOf_30 : decode cX1_startOf 30 = .ok (.iload_n 2, 1) := by decide +kernel
theorem dX1_startOf_31 : decode cX1_startOf 31 = .ok (.ireturn, 1) := by decide +kernel
theorem dX1_resize_0 : decode cX1_resize 0 = .ok (.iload_n 1, 1) := by decide +kernel
theorem dX1_resize_1 : decode cX1_resize 1 = .ok (.ifCond .lt 19, 3) := by decide +kernel
theorem dX1_resize_4 : decode cX1_resize 4 = .ok (.iload_n 1, 1) := by decide +kernel
theorem dX1_resize_5 : decode cX1_resize 5 = .ok (.bipush 11, 2) := by decide +kernel
theorem dX1_resize_7 : decode cX1_resize 7 = .ok (.if_icmp .ge 13, 3) := by decide +kernel
theorem dX1_resize_10 : decode cX1_resize 10 = .ok (.aload_n 0, 1) := by decide +kernel
theorem dX1_resize_11 : decode cX1_resize 11 = .ok (.getfield 21, 3) := by decide +kernel
theorem dX1_resize_14 : decode cX1_resize 14 = .ok (.iload_n 1, 1) := by decide +kernel
theorem dX1_resize_15 : decode cX1_resize 15 = .ok (.dup2, 1) := by decide +kernel
theorem dX1_resize_16 : decode cX1_resize 16 = .ok (.iaload, 1) := by decide +kernel
theorem dX1_resize_17 : decode cX1_resize 17 = .ok (.iload_n 2, 1) := by decide +kernel
theorem dX1_resize_18 : decode cX1_resize 18 = .ok (.iadd, 1) := by decide +kernel
theorem dX1_resize_19 : decode cX1_resize 19 = .ok (.iastore, 1) := by decide +kernel
theorem dX1_resize_20 : decode cX1_resize 20 = .ok (.return_, 1) := by decide +kernel
theorem dX2_init_0 : decode cX2_init 0 = .ok (.aload_n 0, 1) := by decide +kernel
theorem dX2_init_1 : decode cX2_init 1 = .ok (.invokespecial 3, 3) := by decide +kernel
theorem dX2_init_4 : decode cX2_init 4 = .ok (.aload_n 0, 1) := by decide +kernel
theorem dX2_init_5 : decode cX2_init 5 = .ok (.bipush 40, 2) := by decide +kernel
theorem dX2_init_7 : decode cX2_init 7 = .ok (.newarray .int, 2) := by decide +kernel
theorem dX2_init_9 : decode cX2_init 9 = .ok (.putfield 9, 3) := by decide +kernel
theorem dX2_init_12 : decode cX2_init 12 = .ok (.return_, 1) := by decide +kernel
theorem dX2_size_0 : decode cX2_size 0 = .ok (.aload_n 0, 1) := by decide +kernel
theorem dX2_size_1 : decode cX2_size 1 = .ok (.getfield 15, 3) := by decide +kernel
theorem dX2_size_4 : decode cX2_size 4 = .ok (.ireturn, 1) := by decide +kernel
theorem dX2_at_0 : decode cX2_at 0 = .ok (.iload_n 1, 1) := by decide +kernel
theorem dX2_at_1 : decode cX2_at 1 = .ok (.ifCond .lt 20, 3) := by decide +kernel
theorem dX2_at_4 : decode cX2_at 4 = .ok (.iload_n 1, 1) := by decide +kernel
theorem dX2_at_5 : decode cX2_at 5 = .ok (.aload_n 0, 1) := by decide +kernel
theorem dX2_at_6 : decode cX2_at 6 = .ok (.getfield 15, 3) := by decide +kernel
theorem dX2_at_9 : decode cX2_at 9 = .ok (.if_icmp .ge 12, 3) := by decide +kernel
theorem dX2_at_12 : decode cX2_at 12 = .ok (.aload_n 0, 1) := by decide +kernel
theorem dX2_at_13 : decode cX2_at 13 = .ok (.getfield 9, 3) := by decide +kernel
theorem dX2_at_16 : decode cX2_at 16 = .ok (.iload_n 1, 1) := by decide +kernel
theorem dX2_at_17 : decode cX2_at 17 = .ok (.iaload, 1) := by decide +kernel
theorem dX2_at_18 : decode cX2_at 18 = .ok (.goto 4, 3) := by decide +kernel
theorem dX2_at_21 : decode cX2_at 21 = .ok (.iconst (-1), 1) := by decide +kernel
theorem dX2_at_22 : decode cX2_at 22 = .ok (.ireturn, 1) := by decide +kernel
theorem dX2_placeOf_0 : decode cX2_placeOf 0 = .ok (.iconst 0, 1) := by decide +kernel
theorem dX2_placeOf_1 : decode cX2_placeOf 1 = .ok (.istore_n 2, 1) := by decide +kernel
theorem dX2_placeOf_2 : decode cX2_placeOf 2 = .ok (.iload_n 2, 1) := by decide +kernel
theorem dX2_placeOf_3 : decode cX2_placeOf 3 = .ok (.aload_n 0, 1) := by decide +kernel
theorem dX2_placeOf_4 : decode cX2_placeOf 4 = .ok (.getfield 15, 3) := by decide +kernel
theorem dX2_placeOf_7 : decode cX2_placeOf 7 = .ok (.if_icmp .ge 21, 3) := by decide +kernel
theorem dX2_placeOf_10 : decode cX2_placeOf 10 = .ok (.aload_n 0, 1) := by decide +kernel
theorem dX2_placeOf_11 : decode cX2_placeOf 11 = .ok (.getfield 9, 3) := by decide +kernel
theorem dX2_placeOf_14 : decode cX2_placeOf 14 = .ok (.iload_n 2, 1) := by decide +kernel
theorem dX2_placeOf_15 : decode cX2_placeOf 15 = .ok (.iaload, 1) := by decide +kernel
theorem dX2_placeOf_16 : decode cX2_placeOf 16 = .ok (.iload_n 1, 1) := by decide +kernel
theorem dX2_placeOf_17 : decode cX2_placeOf 17 = .ok (.if_icmp .ne 5, 3) := by decide +kernel
theorem dX2_placeOf_20 : decode cX2_placeOf 20 = .ok (.iload_n 2, 1) := by decide +kernel
theorem dX2_placeOf_21 : decode cX2_placeOf 21 = .ok (.ireturn, 1) := by decide +kernel
theorem dX2_placeOf_22 : decode cX2_placeOf 22 = .ok (.iinc 2 1, 3) := by decide +kernel
theorem dX2_placeOf_25 : decode cX2_placeOf 25 = .ok (.goto (-23), 3) := by decide +kernel
theorem dX2_placeOf_28 : decode cX2_placeOf 28 = .ok (.iconst (-1), 1) := by decide +kernel
theorem dX2_placeOf_29 : decode cX2_placeOf 29 = .ok (.ireturn, 1) := by decide +kernel
theorem dX2_insert_0 : decode cX2_insert 0 = .ok (.iload_n 1, 1) := by decide +kernel
theorem dX2_insert_1 : decode cX2_insert 1 = .ok (.ifCond .lt 20, 3) := by decide +kernel
theorem dX2_insert_4 : decode cX2_insert 4 = .ok (.iload_n 1, 1) := by decide +kernel
theorem dX2_insert_5 : decode cX2_insert 5 = .ok (.aload_n 0, 1) := by decide +kernel
theorem dX2_insert_6 : decode cX2_insert 6 = .ok (.getfield 15, 3) := by decide +kernel
theorem dX2_insert_9 : decode cX2_insert 9 = .ok (.if_icmp .gt 12, 3) := by decide +kernel
theorem dX2_insert_12 : decode cX2_insert 12 = .ok (.aload_n 0, 1) := by decide +kernel
theorem dX2_insert_13 : decode cX2_insert 13 = .ok (.getfield 15, 3) := by decide +kernel
theorem dX2_insert_16 : decode cX2_insert 16 = .ok (.bipush 40, 2) := by decide +kernel
theorem dX2_insert_18 : decode cX2_insert 18 = .ok (.if_icmp .lt 4, 3) := by decide +kernel
theorem dX2_insert_21 : decode cX2_insert 21 = .ok (.return_, 1) := by decide +kernel
theorem dX2_insert_22 : decode cX2_insert 22 = .ok (.aload_n 0, 1) := by decide +kernel
theorem dX2_insert_23 : decode cX2_insert 23 = .ok (.getfield 9, 3) := by decide +kernel
theorem dX2_insert_26 : decode cX2_insert 26 = .ok (.iload_n 1, 1) := by decide +kernel
theorem dX2_insert_27 : decode cX2_insert 27 = .ok (.aload_n 0, 1) := by decide +kernel
theorem dX2_insert_28 : decode cX2_insert 28 = .ok (.getfield 9, 3) := by decide +kernel
theorem dX2_insert_31 : decode cX2_insert 31 = .ok (.iload_n 1, 1) := by decide +kernel
theorem dX2_insert_32 : decode cX2_insert 32 = .ok (.iconst 1, 1) := by decide +kernel
theorem dX2_insert_33 : decode cX2_insert 33 = .ok (.iadd, 1) := by decide +kernel
theorem dX2_insert_34 : decode cX2_insert 34 = .ok (.aload_n 0, 1) := by decide +kernel
theorem dX2_insert_35 : decode cX2_insert 35 = .ok (.getfield 15, 3) := by decide +kernel
theorem dX2_insert_38 : decode cX2_insert 38 = .ok (.iload_n 1, 1) := by decide +kernel
theorem dX2_insert_39 : decode cX2_insert 39 = .ok (.isub, 1) := by decide +kernel
theorem dX2_insert_40 : decode cX2_insert 40 = .ok (.invokestatic 19, 3) := by decide +kernel
theorem dX2_insert_43 : decode cX2_insert 43 = .ok (.aload_n 0, 1) := by decide +kernel
theorem dX2_insert_44 : decode cX2_insert 44 = .ok (.getfield 9, 3) := by decide +kernel
theorem dX2_insert_47 : decode cX2_insert 47 = .ok (.iload_n 1, 1) := by decide +kernel
theorem dX2_insert_48 : decode cX2_insert 48 = .ok (.iload_n 2, 1) := by decide +kernel
theorem dX2_insert_49 : decode cX2_insert 49 = .ok (.iastore, 1) := by decide +kernel
theorem dX2_insert_50 : decode cX2_insert 50 = .ok (.aload_n 0, 1) := by decide +kernel
theorem dX2_insert_51 : decode cX2_insert 51 = .ok (.dup, 1) := by decide +kernel
theorem dX2_insert_52 : decode cX2_insert 52 = .ok (.getfield 15, 3) := by decide +kernel
theorem dX2_insert_55 : decode cX2_insert 55 = .ok (.iconst 1, 1) := by decide +kernel
theorem dX2_insert_56 : decode cX2_insert 56 = .ok (.iadd, 1) := by decide +kernel
theorem dX2_insert_57 : decode cX2_insert 57 = .ok (.putfield 15, 3) := by decide +kernel
theorem dX2_insert_60 : decode cX2_insert 60 = .ok (.return_, 1) := by decide +kernel
theorem dX2_removeAt_0 : decode cX2_removeAt 0 = .ok (.iload_n 1, 1) := by decide +kernel
theorem dX2_removeAt_1 : decode cX2_removeAt 1 = .ok (.ifCond .lt 11, 3) := by decide +kernel
theorem dX2_removeAt_4 : decode cX2_removeAt 4 = .ok (.iload_n 1, 1) := by decide +kernel
theorem dX2_removeAt_5 : decode cX2_removeAt 5 = .ok (.aload_n 0, 1) := by decide +kernel
theorem dX2_removeAt_6 : decode cX2_removeAt 6 = .ok (.getfield 15, 3) := by decide +kernel
theorem dX2_removeAt_9 : decode cX2_removeAt 9 = .ok (.if_icmp .lt 4, 3) := by decide +kernel
theorem dX2_removeAt_12 : decode cX2_removeAt 12 = .ok (.return_, 1) := by decide +kernel
theorem dX2_removeAt_13 : decode cX2_removeAt 13 = .ok (.aload_n 0, 1) := by decide +kernel
theorem dX2_removeAt_14 : decode cX2_removeAt 14 = .ok (.dup, 1) := by decide +kernel
theorem dX2_removeAt_15 : decode cX2_removeAt 15 = .ok (.getfield 15, 3) := by decide +kernel
theorem dX2_removeAt_18 : decode cX2_removeAt 18 = .ok (.iconst 1, 1) := by decide +kernel
theorem dX2_removeAt_19 : decode cX2_removeAt 19 = .ok (.isub, 1) := by decide +kernel
theorem dX2_removeAt_20 : decode cX2_removeAt 20 = .ok (.putfield 15, 3) := by decide +kernel
theorem dX2_removeAt_23 : decode cX2_removeAt 23 = .ok (.aload_n 0, 1) := by decide +kernel
theorem dX2_removeAt_24 : decode cX2_removeAt 24 = .ok (.getfield 9, 3) := by decide +kernel
theorem dX2_removeAt_27 : decode cX2_removeAt 27 = .ok (.iload_n 1, 1) := by decide +kernel
theorem dX2_removeAt_28 : decode cX2_removeAt 28 = .ok (.iconst 1, 1) := by decide +kernel
theorem dX2_removeAt_29 : decode cX2_removeAt 29 = .ok (.iadd, 1) := by decide +kernel
theorem dX2_removeAt_30 : decode cX2_removeAt 30 = .ok (.aload_n 0, 1) := by decide +kernel
theorem dX2_removeAt_31 : decode cX2_removeAt 31 = .ok (.getfield 9, 3) := by decide +kernel
theorem dX2_removeAt_34 : decode cX2_removeAt 34 = .ok (.iload_n 1, 1) := by decide +kernel
theorem dX2_removeAt_35 : decode cX2_removeAt 35 = .ok (.aload_n 0, 1) := by decide +kernel
theorem dX2_removeAt_36 : decode cX2_removeAt 36 = .ok (.getfield 15, 3) := by decide +kernel
theorem dX2_removeAt_39 : decode cX2_removeAt 39 = .ok (.iload_n 1, 1) := by decide +kernel
theorem dX2_removeAt_40 : decode cX2_removeAt 40 = .ok (.isub, 1) := by decide +kernel
theorem dX2_removeAt_41 : decode cX2_removeAt 41 = .ok (.invokestatic 19, 3) := by decide +kernel
theorem dX2_removeAt_44 : decode cX2_removeAt 44 = .ok (.return_, 1) := by decide +kernel
theorem dX2_becomeLike_0 : decode cX2_becomeLike 0 = .ok (.aload_n 1, 1) := by decide +kernel
theorem dX2_becomeLike_1 : decode cX2_becomeLike 1 = .ok (.getfield 9, 3) := by decide +kernel
theorem dX2_becomeLike_4 : decode cX2_becomeLike 4 = .ok (.iconst 0, 1) := by decide +kernel
theorem dX2_becomeLike_5 : decode cX2_becomeLike 5 = .ok (.aload_n 0, 1) := by decide +kernel
theorem dX2_becomeLike_6 : decode cX2_becomeLike 6 = .ok (.getfield 9, 3) := by decide +kernel
theorem dX2_becomeLike_9 : decode cX2_becomeLike 9 = .ok (.iconst 0, 1) := by decide +kernel
theorem dX2_becomeLike_10 : decode cX2_becomeLike 10 = .ok (.aload_n 1, 1) := by decide +kernel
theorem dX2_becomeLike_11 : decode cX2_becomeLike 11 = .ok (.getfield 15, 3) := by decide +kernel
theorem dX2_becomeLike_14 : decode cX2_becomeLike 14 = .ok (.invokestatic 19, 3) := by decide +kernel
theorem dX2_becomeLike_17 : decode cX2_becomeLike 17 = .ok (.aload_n 0, 1) := by decide +kernel
theorem dX2_becomeLike_18 : decode cX2_becomeLike 18 = .ok (.aload_n 1, 1) := by decide +kernel
theorem dX2_becomeLike_19 : decode cX2_becomeLike 19 = .ok (.getfield 15, 3) := by decide +kernel
theorem dX2_becomeLike_22 : decode cX2_becomeLike 22 = .ok (.putfield 15, 3) := by decide +kernel
theorem dX2_becomeLike_25 : decode cX2_becomeLike 25 = .ok (.return_, 1) := by decide +kernel
theorem dX2_becomeFirstOf_0 : decode cX2_becomeFirstOf 0 = .ok (.iload_n 2, 1) := by decide +kernel
theorem dX2_becomeFirstOf_1 : decode cX2_becomeFirstOf 1 = .ok (.ifCond .lt 11, 3) := by decide +kernel
theorem dX2_becomeFirstOf_4 : decode cX2_becomeFirstOf 4 = .ok (.iload_n 2, 1) := by decide +kernel
theorem dX2_becomeFirstOf_5 : decode cX2_becomeFirstOf 5 = .ok (.aload_n 1, 1) := by decide +kernel
theorem dX2_becomeFirstOf_6 : decode cX2_becomeFirstOf 6 = .ok (.getfield 15, 3) := by decide +kernel
theorem dX2_becomeFirstOf_9 : decode cX2_becomeFirstOf 9 = .ok (.if_icmp .le 4, 3) := by decide +kernel
theorem dX2_becomeFirstOf_12 : decode cX2_becomeFirstOf 12 = .ok (.return_, 1) := by decide +kernel
theorem dX2_becomeFirstOf_13 : decode cX2_becomeFirstOf 13 = .ok (.aload_n 1, 1) := by decide +kernel
theorem dX2_becomeFirstOf_14 : decode cX2_becomeFirstOf 14 = .ok (.getfield 9, 3) := by decide +kernel
theorem dX2_becomeFirstOf_17 : decode cX2_becomeFirstOf 17 = .ok (.iconst 0, 1) := by decide +kernel
theorem dX2_becomeFirstOf_18 : decode cX2_becomeFirstOf 18 = .ok (.aload_n 0, 1) := by decide +kernel
theorem dX2_becomeFirstOf_19 : decode cX2_becomeFirstOf 19 = .ok (.getfield 9, 3) := by decide +kernel
theorem dX2_becomeFirstOf_22 : decode cX2_becomeFirstOf 22 = .ok (.iconst 0, 1) := by decide +kernel
theorem dX2_becomeFirstOf_23 : decode cX2_becomeFirstOf 23 = .ok (.iload_n 2, 1) := by decide +kernel
theorem dX2_becomeFirstOf_24 : decode cX2_becomeFirstOf 24 = .ok (.invokestatic 19, 3) := by decide +kernel
theorem dX2_becomeFirstOf_27 : decode cX2_becomeFirstOf 27 = .ok (.aload_n 0, 1) := by decide +kernel
theorem dX2_becomeFirstOf_28 : decode cX2_becomeFirstOf 28 = .ok (.iload_n 2, 1) := by decide +kernel
theorem dX2_becomeFirstOf_29 : decode cX2_becomeFirstOf 29 = .ok (.putfield 15, 3) := by decide +kernel
theorem dX2_becomeFirstOf_32 : decode cX2_becomeFirstOf 32 = .ok (.aload_n 1, 1) := by decide +kernel
theorem dX2_becomeFirstOf_33 : decode cX2_becomeFirstOf 33 = .ok (.dup, 1) := by decide +kernel
theorem dX2_becomeFirstOf_34 : decode cX2_becomeFirstOf 34 = .ok (.getfield 15, 3) := by decide +kernel
theorem dX2_becomeFirstOf_37 : decode cX2_becomeFirstOf 37 = .ok (.iload_n 2, 1) := by decide +kernel
theorem dX2_becomeFirstOf_38 : decode cX2_becomeFirstOf 38 = .ok (.isub, 1) := by decide +kernel
theorem dX2_becomeFirstOf_39 : decode cX2_becomeFirstOf 39 = .ok (.putfield 15, 3) := by decide +kernel
theorem dX2_becomeFirstOf_42 : decode cX2_becomeFirstOf 42 = .ok (.aload_n 1, 1) := by decide +kernel
theorem dX2_becomeFirstOf_43 : decode cX2_becomeFirstOf 43 = .ok (.getfield 9, 3) := by decide +kernel
theorem dX2_becomeFirstOf_46 : decode cX2_becomeFirstOf 46 = .ok (.iload_n 2, 1) := by decide +kernel
theorem dX2_becomeFirstOf_47 : decode cX2_becomeFirstOf 47 = .ok (.aload_n 1, 1) := by decide +kernel
theorem dX2_becomeFirstOf_48 : decode cX2_becomeFirstOf 48 = .ok (.getfield 9, 3) := by decide +kernel
theorem dX2_becomeFirstOf_51 : decode cX2_becomeFirstOf 51 = .ok (.iconst 0, 1) := by decide +kernel
theorem dX2_becomeFirstOf_52 : decode cX2_becomeFirstOf 52 = .ok (.aload_n 1, 1) := by decide +kernel
theorem dX2_becomeFirstOf_53 : decode cX2_becomeFirstOf 53 = .ok (.getfield 15, 3) := by decide +kernel
theorem dX2_becomeFirstOf_56 : decode cX2_becomeFirstOf 56 = .ok (.invokestatic 19, 3) := by decide +kernel
theorem dX2_becomeFirstOf_59 : decode cX2_becomeFirstOf 59 = .ok (.return_, 1) := by decide +kernel
theorem dX3_init_0 : decode cX3_init 0 = .ok (.aload_n 0, 1) := by decide +kernel
theorem dX3_init_1 : decode cX3_init 1 = .ok (.invokespecial 1, 3) := by decide +kernel
theorem dX3_init_4 : decode cX3_init 4 = .ok (.aload_n 0, 1) := by decide +kernel
theorem dX3_init_5 : decode cX3_init 5 = .ok (.new 7, 3) := by decide +kernel
theorem dX3_init_8 : decode cX3_init 8 = .ok (.dup, 1) := by decide +kernel
theorem dX3_init_9 : decode cX3_init 9 = .ok (.invokespecial 9, 3) := by decide +kernel
theorem dX3_init_12 : decode cX3_init 12 = .ok (.putfield 10, 3) := by decide +kernel
theorem dX3_init_15 : decode cX3_init 15 = .ok (.aload_n 0, 1) := by decide +kernel
theorem dX3_init_16 : decode cX3_init 16 = .ok (.new 16, 3) := by decide +kernel
theorem dX3_init_19 : decode cX3_init 19 = .ok (.dup, 1) := by decide +kernel
theorem dX3_init_20 : decode cX3_init 20 = .ok (.aload_n 0, 1) := by decide +kernel
theorem dX3_init_21 : decode cX3_init 21 = .ok (.getfield 10, 3) := by decide +kernel
theorem dX3_init_24 : decode cX3_init 24 = .ok (.iconst 1, 1) := by decide +kernel
theorem dX3_init_25 : decode cX3_init 25 = .ok (.invokespecial 18, 3) := by decide +kernel
theorem dX3_init_28 : decode cX3_init 28 = .ok (.putfield 21, 3) := by decide +kernel
theorem dX3_init_31 : decode cX3_init 31 = .ok (.aload_n 0, 1) := by decide +kernel
theorem dX3_init_32 : decode cX3_init 32 = .ok (.new 16, 3) := by decide +kernel
theorem dX3_init_35 : decode cX3_init 35 = .ok (.dup, 1) := by decide +kernel
theorem dX3_init_36 : decode cX3_init 36 = .ok (.aload_n 0, 1) := by decide +kernel
theorem dX3_init_37 : decode cX3_init 37 = .ok (.getfield 10, 3) := by decide +kernel
theorem dX3_init_40 : decode cX3_init 40 = .ok (.iconst 1, 1) := by decide +kernel
theorem dX3_init_41 : decode cX3_init 41 = .ok (.invokespecial 18, 3) := by decide +kernel
theorem dX3_init_44 : decode cX3_init 44 = .ok (.putfield 25, 3) := by decide +kernel
theorem dX3_init_47 : decode cX3_init 47 = .ok (.aload_n 0, 1) := by decide +kernel
theorem dX3_init_48 : decode cX3_init 48 = .ok (.new 16, 3) := by decide +kernel
theorem dX3_init_51 : decode cX3_init 51 = .ok (.dup, 1) := by decide +kernel
theorem dX3_init_52 : decode cX3_init 52 = .ok (.aload_n 0, 1) := by decide +kernel
theorem dX3_init_53 : decode cX3_init 53 = .ok (.getfield 10, 3) := by decide +kernel
theorem dX3_init_56 : decode cX3_init 56 = .ok (.iconst 0, 1) := by decide +kernel
theorem dX3_init_57 : decode cX3_init 57 = .ok (.invokespecial 18, 3) := by decide +kernel
theorem dX3_init_60 : decode cX3_init 60 = .ok (.putfield 28, 3) := by decide +kernel
theorem dX3_init_63 : decode cX3_init 63 = .ok (.return_, 1) := by decide +kernel
theorem dX3_light_0 : decode cX3_light 0 = .ok (.aload_n 0, 1) := by decide +kernel
theorem dX3_light_1 : decode cX3_light 1 = .ok (.iload_n 1, 1) := by decide +kernel
theorem dX3_light_2 : decode cX3_light 2 = .ok (.invokevirtual 31, 3) := by decide +kernel
theorem dX3_light_5 : decode cX3_light 5 = .ok (.astore_n 3, 1) := by decide +kernel
theorem dX3_light_6 : decode cX3_light 6 = .ok (.aload_n 3, 1) := by decide +kernel
theorem dX3_light_7 : decode cX3_light 7 = .ok (.iload_n 2, 1) := by decide +kernel
theorem dX3_light_8 : decode cX3_light 8 = .ok (.invokevirtual 35, 3) := by decide +kernel
theorem dX3_light_11 : decode cX3_light 11 = .ok (.ifCond .ne 13, 3) := by decide +kernel
theorem dX3_light_14 : decode cX3_light 14 = .ok (.new 39, 3) := by decide +kernel
theorem dX3_light_17 : decode cX3_light 17 = .ok (.dup, 1) := by decide +kernel
theorem dX3_light_18 : decode cX3_light 18 = .ok (.ldc 41, 2) := by decide +kernel
theorem dX3_light_20 : decode cX3_light 20 = .ok (.invokespecial 43, 3) := by decide +kernel
theorem dX3_light_23 : decode cX3_light 23 = .ok (.athrow, 1) := by decide +kernel
theorem dX3_light_24 : decode cX3_light 24 = .ok (.aload_n 0, 1) := by decide +kernel
theorem dX3_light_25 : decode cX3_light 25 = .ok (.getfield 10, 3) := by decide +kernel
theorem dX3_light_28 : decode cX3_light 28 = .ok (.invokevirtual 46, 3) := by decide +kernel
theorem dX3_light_31 : decode cX3_light 31 = .ok (.bipush 40, 2) := by decide +kernel
theorem dX3_light_33 : decode cX3_light 33 = .ok (.if_icmp .lt 13, 3) := by decide +kernel
theorem dX3_light_36 : decode cX3_light 36 = .ok (.new 50, 3) := by decide +kernel
theorem dX3_light_39 : decode cX3_light 39 = .ok (.dup, 1) := by decide +kernel
theorem dX3_light_40 : decode cX3_light 40 = .ok (.ldc 52, 2) := by decide +kernel
theorem dX3_light_42 : decode cX3_light 42 = .ok (.invokespecial 54, 3) := by decide +kernel
theorem dX3_light_45 : decode cX3_light 45 = .ok (.athrow, 1) := by decide +kernel
theorem dX3_light_46 : decode cX3_light 46 = .ok (.aload_n 0, 1) := by decide +kernel
theorem dX3_light_47 : decode cX3_light 47 = .ok (.getfield 10, 3) := by decide +kernel
theorem dX3_light_50 : decode cX3_light 50 = .ok (.iload_n 2, 1) := by decide +kernel
theorem dX3_light_51 : decode cX3_light 51 = .ok (.iload_n 1, 1) := by decide +kernel
theorem dX3_light_52 : decode cX3_light 52 = .ok (.invokevirtual 55, 3) := by decide +kernel
theorem dX3_light_55 : decode cX3_light 55 = .ok (.istore 4, 2) := by decide +kernel
theorem dX3_light_57 : decode cX3_light 57 = .ok (.aload_n 3, 1) := by decide +kernel
theorem dX3_light_58 : decode cX3_light 58 = .ok (.iload 4, 2) := by decide +kernel
theorem dX3_light_60 : decode cX3_light 60 = .ok (.invokevirtual 59, 3) := by decide +kernel
theorem dX3_light_63 : decode cX3_light 63 = .ok (.iload 4, 2) := by decide +kernel
theorem dX3_light_65 : decode cX3_light 65 = .ok (.ireturn, 1) := by decide +kernel
theorem dX3_fade_0 : decode cX3_fade 0 = .ok (.aload_n 0, 1) := by decide +kernel
theorem dX3_fade_1 : decode cX3_fade 1 = .ok (.iload_n 1, 1) := by decide +kernel
theorem dX3_fade_2 : decode cX3_fade 2 = .ok (.invokevirtual 63, 3) := by decide +kernel
theorem dX3_fade_5 : decode cX3_fade 5 = .ok (.astore_n 3, 1) := by decide +kernel
theorem dX3_fade_6 : decode cX3_fade 6 = .ok (.iload_n 2, 1) := by decide +kernel
theorem dX3_fade_7 : decode cX3_fade 7 = .ok (.aload_n 3, 1) := by decide +kernel
theorem dX3_fade_8 : decode cX3_fade 8 = .ok (.invokevirtual 66, 3) := by decide +kernel
theorem dX3_fade_11 : decode cX3_fade 11 = .ok (.if_icmp .lt 15, 3) := by decide +kernel
theorem dX3_fade_14 : decode cX3_fade 14 = .ok (.iload_n 2, 1) := by decide +kernel
theorem dX3_fade_15 : decode cX3_fade 15 = .ok (.aload_n 0, 1) := by decide +kernel
theorem dX3_fade_16 : decode cX3_fade 16 = .ok (.getfield 10, 3) := by decide +kernel
theorem dX3_fade_19 : decode cX3_fade 19 = .ok (.iload_n 1, 1) := by decide +kernel
theorem dX3_fade_20 : decode cX3_fade 20 = .ok (.invokevirtual 69, 3) := by decide +kernel
theorem dX3_fade_23 : decode cX3_fade 23 = .ok (.if_icmp .lt 13, 3) := by decide +kernel
theorem dX3_fade_26 : decode cX3_fade 26 = .ok (.new 39, 3) := by decide +kernel
theorem dX3_fade_29 : decode cX3_fade 29 = .ok (.dup, 1) := by decide +kernel
theorem dX3_fade_30 : decode cX3_fade 30 = .ok (.ldc 73, 2) := by decide +kernel
theorem dX3_fade_32 : decode cX3_fade 32 = .ok (.invokespecial 43, 3) := by decide +kernel
theorem dX3_fade_35 : decode cX3_fade 35 = .ok (.athrow, 1) := by decide +kernel
theorem dX3_fade_36 : decode cX3_fade 36 = .ok (.aload_n 3, 1) := by decide +kernel
theorem dX3_fade_37 : decode cX3_fade 37 = .ok (.iload_n 1, 1) := by decide +kernel
theorem dX3_fade_38 : decode cX3_fade 38 = .ok (.invokevirtual 75, 3) := by decide +kernel
theorem dX3_fade_41 : decode cX3_fade 41 = .ok (.aload_n 0, 1) := by decide +kernel
theorem dX3_fade_42 : decode cX3_fade 42 = .ok (.getfield 10, 3) := by decide +kernel
theorem dX3_fade_45 : decode cX3_fade 45 = .ok (.iload_n 1, 1) := by decide +kernel
theorem dX3_fade_46 : decode cX3_fade 46 = .ok (.iload_n 2, 1) := by decide +kernel
theorem dX3_fade_47 : decode cX3_fade 47 = .ok (.invokevirtual 78, 3) := by decide +kernel
theorem dX3_fade_50 : decode cX3_fade 50 = .ok (.aload_n 3, 1) := by decide +kernel
theorem dX3_fade_51 : decode cX3_fade 51 = .ok (.iload_n 1, 1) := by decide +kernel
theorem dX3_fade_52 : decode cX3_fade 52 = .ok (.invokevirtual 59, 3) := by decide +kernel
theorem dX3_fade_55 : decode cX3_fade 55 = .ok (.aload_n 3, 1) := by decide +kernel
theorem dX3_fade_56 : decode cX3_fade 56 = .ok (.iload_n 2, 1) := by decide +kernel
theorem dX3_fade_57 : decode cX3_fade 57 = .ok (.invokevirtual 82, 3) := by decide +kernel
theorem dX3_fade_60 : decode cX3_fade 60 = .ok (.ireturn, 1) := by decide +kernel
theorem dX3_quench_0 : decode cX3_quench 0 = .ok (.aload_n 0, 1) := by decide +kernel
theorem dX3_quench_1 : decode cX3_quench 1 = .ok (.iload_n 1, 1) := by decide +kernel
theorem dX3_quench_2 : decode cX3_quench 2 = .ok (.invokevirtual 63, 3) := by decide +kernel
theorem dX3_quench_5 : decode cX3_quench 5 = .ok (.astore_n 2, 1) := by decide +kernel
theorem dX3_quench_6 : decode cX3_quench 6 = .ok (.aload_n 2, 1) := by decide +kernel
theorem dX3_quench_7 : decode cX3_quench 7 = .ok (.aload_n 0, 1) := by decide +kernel
theorem dX3_quench_8 : decode cX3_quench 8 = .ok (.getfield 10, 3) := by decide +kernel
theorem dX3_quench_11 : decode cX3_quench 11 = .ok (.iload_n 1, 1) := by decide +kernel
theorem dX3_quench_12 : decode cX3_quench 12 = .ok (.invokevirtual 69, 3) := by decide +kernel
theorem dX3_quench_15 : decode cX3_quench 15 = .ok (.invokevirtual 82, 3) := by decide +kernel
theorem dX3_quench_18 : decode cX3_quench 18 = .ok (.istore_n 3, 1) := by decide +kernel
theorem dX3_quench_19 : decode cX3_quench 19 = .ok (.aload_n 2, 1) := by decide +kernel
theorem dX3_quench_20 : decode cX3_quench 20 = .ok (.iload_n 1, 1) := by decide +kernel
theorem dX3_quench_21 : decode cX3_quench 21 = .ok (.invokevirtual 75, 3) := by decide +kernel
theorem dX3_quench_24 : decode cX3_quench 24 = .ok (.aload_n 0, 1) := by decide +kernel
theorem dX3_quench_25 : decode cX3_quench 25 = .ok (.getfield 10, 3) := by decide +kernel
theorem dX3_quench_28 : decode cX3_quench 28 = .ok (.iload_n 1, 1) := by decide +kernel
theorem dX3_quench_29 : decode cX3_quench 29 = .ok (.iconst 0, 1) := by decide +kernel
theorem dX3_quench_30 : decode cX3_quench 30 = .ok (.invokevirtual 85, 3) := by decide +kernel
theorem dX3_quench_33 : decode cX3_quench 33 = .ok (.aload_n 0, 1) := by decide +kernel
theorem dX3_quench_34 : decode cX3_quench 34 = .ok (.dup, 1) := by decide +kernel
theorem dX3_quench_35 : decode cX3_quench 35 = .ok (.getfield 89, 3) := by decide +kernel
theorem dX3_quench_38 : decode cX3_quench 38 = .ok (.iconst 1, 1) := by decide +kernel
theorem dX3_quench_39 : decode cX3_quench 39 = .ok (.iadd, 1) := by decide +kernel
theorem dX3_quench_40 : decode cX3_quench 40 = .ok (.putfield 89, 3) := by decide +kernel
theorem dX3_quench_43 : decode cX3_quench 43 = .ok (.iload_n 3, 1) := by decide +kernel
theorem dX3_quench_44 : decode cX3_quench 44 = .ok (.ireturn, 1) := by decide +kernel
theorem dX3_rake_0 : decode cX3_rake 0 = .ok (.aload_n 0, 1) := by decide +kernel
theorem dX3_rake_1 : decode cX3_rake 1 = .ok (.iload_n 1, 1) := by decide +kernel
theorem dX3_rake_2 : decode cX3_rake 2 = .ok (.invokevirtual 31, 3) := by decide +kernel
theorem dX3_rake_5 : decode cX3_rake 5 = .ok (.astore_n 2, 1) := by decide +kernel
theorem dX3_rake_6 : decode cX3_rake 6 = .ok (.aload_n 2, 1) := by decide +kernel
theorem dX3_rake_7 : decode cX3_rake 7 = .ok (.invokevirtual 93, 3) := by decide +kernel
theorem dX3_rake_10 : decode cX3_rake 10 = .ok (.ifCond .ne 13, 3) := by decide +kernel
theorem dX3_rake_13 : decode cX3_rake 13 = .ok (.new 50, 3) := by decide +kernel
theorem dX3_rake_16 : decode cX3_rake 16 = .ok (.dup, 1) := by decide +kernel
theorem dX3_rake_17 : decode cX3_rake 17 = .ok (.ldc 96, 2) := by decide +kernel
theorem dX3_rake_19 : decode cX3_rake 19 = .ok (.invokespecial 54, 3) := by decide +kernel
theorem dX3_rake_22 : decode cX3_rake 22 = .ok (.athrow, 1) := by decide +kernel
theorem dX3_rake_23 : decode cX3_rake 23 = .ok (.aload_n 2, 1) := by decide +kernel
theorem dX3_rake_24 : decode cX3_rake 24 = .ok (.invokevirtual 98, 3) := by decide +kernel
theorem dX3_rake_27 : decode cX3_rake 27 = .ok (.istore_n 3, 1) := by decide +kernel
theorem dX3_rake_28 : decode cX3_rake 28 = .ok (.aload_n 0, 1) := by decide +kernel
theorem dX3_rake_29 : decode cX3_rake 29 = .ok (.getfield 10, 3) := by decide +kernel
theorem dX3_rake_32 : decode cX3_rake 32 = .ok (.iload_n 3, 1) := by decide +kernel
theorem dX3_rake_33 : decode cX3_rake 33 = .ok (.iconst 1, 1) := by decide +kernel
theorem dX3_rake_34 : decode cX3_rake 34 = .ok (.invokevirtual 85, 3) := by decide +kernel
theorem dX3_rake_37 : decode cX3_rake 37 = .ok (.iload_n 3, 1) := by decide +kernel
theorem dX3_rake_38 : decode cX3_rake 38 = .ok (.ireturn, 1) := by decide +kernel
theorem dX3_raise_0 : decode cX3_raise 0 = .ok (.aload_n 0, 1) := by decide +kernel
theorem dX3_raise_1 : decode cX3_raise 1 = .ok (.iload_n 1, 1) := by decide +kernel
theorem dX3_raise_2 : decode cX3_raise 2 = .ok (.invokevirtual 31, 3) := by decide +kernel
theorem dX3_raise_5 : decode cX3_raise 5 = .ok (.astore_n 3, 1) := by decide +kernel
theorem dX3_raise_6 : decode cX3_raise 6 = .ok (.iload_n 2, 1) := by decide +kernel
theorem dX3_raise_7 : decode cX3_raise 7 = .ok (.aload_n 3, 1) := by decide +kernel
theorem dX3_raise_8 : decode cX3_raise 8 = .ok (.invokevirtual 66, 3) := by decide +kernel
theorem dX3_raise_11 : decode cX3_raise 11 = .ok (.if_icmp .lt 11, 3) := by decide +kernel
theorem dX3_raise_14 : decode cX3_raise 14 = .ok (.iload_n 2, 1) := by decide +kernel
theorem dX3_raise_15 : decode cX3_raise 15 = .ok (.aload_n 3, 1) := by decide +kernel
theorem dX3_raise_16 : decode cX3_raise 16 = .ok (.invokevirtual 101, 3) := by decide +kernel
theorem dX3_raise_19 : decode cX3_raise 19 = .ok (.if_icmp .le 13, 3) := by decide +kernel
theorem dX3_raise_22 : decode cX3_raise 22 = .ok (.new 39, 3) := by decide +kernel
theorem dX3_raise_25 : decode cX3_raise 25 = .ok (.dup, 1) := by decide +kernel
theorem dX3_raise_26 : decode cX3_raise 26 = .ok (.ldc 104, 2) := by decide +kernel
theorem dX3_raise_28 : decode cX3_raise 28 = .ok (.invokespecial 43, 3) := by decide +kernel
theorem dX3_raise_31 : decode cX3_raise 31 = .ok (.athrow, 1) := by decide +kernel
theorem dX3_raise_32 : decode cX3_raise 32 = .ok (.iload_n 2, 1) := by decide +kernel
theorem dX3_raise_33 : decode cX3_raise 33 = .ok (.aload_n 3, 1) := by decide +kernel
theorem dX3_raise_34 : decode cX3_raise 34 = .ok (.invokevirtual 66, 3) := by decide +kernel
theorem dX3_raise_37 : decode cX3_raise 37 = .ok (.if_icmp .ne 7, 3) := by decide +kernel
theorem dX3_raise_40 : decode cX3_raise 40 = .ok (.iconst 0, 1) := by decide +kernel
theorem dX3_raise_41 : decode cX3_raise 41 = .ok (.goto 8, 3) := by decide +kernel
theorem dX3_raise_44 : decode cX3_raise 44 = .ok (.aload_n 3, 1) := by decide +kernel
theorem dX3_raise_45 : decode cX3_raise 45 = .ok (.iload_n 2, 1) := by decide +kernel
theorem dX3_raise_46 : decode cX3_raise 46 = .ok (.invokevirtual 106, 3) := by decide +kernel
theorem dX3_raise_49 : decode cX3_raise 49 = .ok (.ireturn, 1) := by decide +kernel
theorem dX3_pour_0 : decode cX3_pour 0 = .ok (.aload_n 0, 1) := by decide +kernel
theorem dX3_pour_1 : decode cX3_pour 1 = .ok (.iload_n 1, 1) := by decide +kernel
theorem dX3_pour_2 : decode cX3_pour 2 = .ok (.invokevirtual 31, 3) := by decide +kernel
theorem dX3_pour_5 : decode cX3_pour 5 = .ok (.astore_n 2, 1) := by decide +kernel
theorem dX3_pour_6 : decode cX3_pour 6 = .ok (.iconst 1, 1) := by decide +kernel
theorem dX3_pour_7 : decode cX3_pour 7 = .ok (.iload_n 1, 1) := by decide +kernel
theorem dX3_pour_8 : decode cX3_pour 8 = .ok (.isub, 1) := by decide +kernel
theorem dX3_pour_9 : decode cX3_pour 9 = .ok (.istore_n 3, 1) := by decide +kernel
theorem dX3_pour_10 : decode cX3_pour 10 = .ok (.aload_n 0, 1) := by decide +kernel
theorem dX3_pour_11 : decode cX3_pour 11 = .ok (.iload_n 3, 1) := by decide +kernel
theorem dX3_pour_12 : decode cX3_pour 12 = .ok (.invokevirtual 31, 3) := by decide +kernel
theorem dX3_pour_15 : decode cX3_pour 15 = .ok (.astore 4, 2) := by decide +kernel
theorem dX3_pour_17 : decode cX3_pour 17 = .ok (.aload_n 2, 1) := by decide +kernel
theorem dX3_pour_18 : decode cX3_pour 18 = .ok (.invokevirtual 93, 3) := by decide +kernel
theorem dX3_pour_21 : decode cX3_pour 21 = .ok (.ifCond .le 25, 3) := by decide +kernel
theorem dX3_pour_24 : decode cX3_pour 24 = .ok (.aload_n 2, 1) := by decide +kernel
theorem dX3_pour_25 : decode cX3_pour 25 = .ok (.invokevirtual 101, 3) := by decide +kernel
theorem dX3_pour_28 : decode cX3_pour 28 = .ok (.aload 4, 2) := by decide +kernel
theorem dX3_pour_30 : decode cX3_pour 30 = .ok (.invokevirtual 66, 3) := by decide +kernel
theorem dX3_pour_33 : decode cX3_pour 33 = .ok (.if_icmp .ge 13, 3) := by decide +kernel
theorem dX3_pour_36 : decode cX3_pour 36 = .ok (.new 50, 3) := by decide +kernel
theorem dX3_pour_39 : decode cX3_pour 39 = .ok (.dup, 1) := by decide +kernel
theorem dX3_pour_40 : decode cX3_pour 40 = .ok (.ldc 109, 2) := by decide +kernel
theorem dX3_pour_42 : decode cX3_pour 42 = .ok (.invokespecial 54, 3) := by decide +kernel
theorem dX3_pour_45 : decode cX3_pour 45 = .ok (.athrow, 1) := by decide +kernel
theorem dX3_pour_46 : decode cX3_pour 46 = .ok (.aload_n 2, 1) := by decide +kernel
theorem dX3_pour_47 : decode cX3_pour 47 = .ok (.invokevirtual 111, 3) := by decide +kernel
theorem dX3_pour_50 : decode cX3_pour 50 = .ok (.astore 5, 2) := by decide +kernel
theorem dX3_pour_52 : decode cX3_pour 52 = .ok (.aload 5, 2) := by decide +kernel
theorem dX3_pour_54 : decode cX3_pour 54 = .ok (.invokevirtual 115, 3) := by decide +kernel
theorem dX3_pour_57 : decode cX3_pour 57 = .ok (.istore 6, 2) := by decide +kernel
theorem dX3_pour_59 : decode cX3_pour 59 = .ok (.iconst 0, 1) := by decide +kernel
theorem dX3_pour_60 : decode cX3_pour 60 = .ok (.istore 7, 2) := by decide +kernel
theorem dX3_pour_62 : decode cX3_pour 62 = .ok (.iload 7, 2) := by decide +kernel
theorem dX3_pour_64 : decode cX3_pour 64 = .ok (.iload 6, 2) := by decide +kernel
theorem dX3_pour_66 : decode cX3_pour 66 = .ok (.if_icmp .ge 24, 3) := by decide +kernel
theorem dX3_pour_69 : decode cX3_pour 69 = .ok (.aload_n 0, 1) := by decide +kernel
theorem dX3_pour_70 : decode cX3_pour 70 = .ok (.getfield 10, 3) := by decide +kernel
theorem dX3_pour_73 : decode cX3_pour 73 = .ok (.aload 5, 2) := by decide +kernel
theorem dX3_pour_75 : decode cX3_pour 75 = .ok (.iload 7, 2) := by decide +kernel
theorem dX3_pour_77 : decode cX3_pour 77 = .ok (.invokevirtual 118, 3) := by decide +kernel
theorem dX3_pour_80 : decode cX3_pour 80 = .ok (.iload_n 3, 1) := by decide +kernel
theorem dX3_pour_81 : decode cX3_pour 81 = .ok (.invokevirtual 121, 3) := by decide +kernel
theorem dX3_pour_84 : decode cX3_pour 84 = .ok (.iinc 7 1, 3) := by decide +kernel
theorem dX3_pour_87 : decode cX3_pour 87 = .ok (.goto (-25), 3) := by decide +kernel
theorem dX3_pour_90 : decode cX3_pour 90 = .ok (.aload 4, 2) := by decide +kernel
theorem dX3_pour_92 : decode cX3_pour 92 = .ok (.aload 5, 2) := by decide +kernel
theorem dX3_pour_94 : decode cX3_pour 94 = .ok (.invokevirtual 124, 3) := by decide +kernel
theorem dX3_pour_97 : decode cX3_pour 97 = .ok (.ireturn, 1) := by decide +kernel
theorem dX3_many_0 : decode cX3_many 0 = .ok (.aload_n 0, 1) := by decide +kernel
theorem dX3_many_1 : decode cX3_many 1 = .ok (.iload_n 1, 1) := by decide +kernel
theorem dX3_many_2 : decode cX3_many 2 = .ok (.invokevirtual 31, 3) := by decide +kernel
theorem dX3_many_5 : decode cX3_many 5 = .ok (.astore_n 3, 1) := by decide +kernel
theorem dX3_many_6 : decode cX3_many 6 = .ok (.iload_n 2, 1) := by decide +kernel
theorem dX3_many_7 : decode cX3_many 7 = .ok (.invokestatic 128, 3) := by decide +kernel
theorem dX3_many_10 : decode cX3_many 10 = .ok (.aload_n 3, 1) := by decide +kernel
theorem dX3_many_11 : decode cX3_many 11 = .ok (.iload_n 2, 1) := by decide +kernel
theorem dX3_many_12 : decode cX3_many 12 = .ok (.invokevirtual 131, 3) := by decide +kernel
theorem dX3_many_15 : decode cX3_many 15 = .ok (.ireturn, 1) := by decide +kernel
theorem dX3_lies_0 : decode cX3_lies 0 = .ok (.aload_n 0, 1) := by decide +kernel
theorem dX3_lies_1 : decode cX3_lies 1 = .ok (.iload_n 1, 1) := by decide +kernel
theorem dX3_lies_2 : decode cX3_lies 2 = .ok (.invokevirtual 31, 3) := by decide +kernel
theorem dX3_lies_5 : decode cX3_lies 5 = .ok (.astore 4, 2) := by decide +kernel
theorem dX3_lies_7 : decode cX3_lies 7 = .ok (.iload_n 2, 1) := by decide +kernel
theorem dX3_lies_8 : decode cX3_lies 8 = .ok (.invokestatic 128, 3) := by decide +kernel
theorem dX3_lies_11 : decode cX3_lies 11 = .ok (.iload_n 3, 1) := by decide +kernel
theorem dX3_lies_12 : decode cX3_lies 12 = .ok (.ifCond .lt 13, 3) := by decide +kernel
theorem dX3_lies_15 : decode cX3_lies 15 = .ok (.iload_n 3, 1) := by decide +kernel
theorem dX3_lies_16 : decode cX3_lies 16 = .ok (.aload 4, 2) := by decide +kernel
theorem dX3_lies_18 : decode cX3_lies 18 = .ok (.iload_n 2, 1) := by decide +kernel
theorem dX3_lies_19 : decode cX3_lies 19 = .ok (.invokevirtual 131, 3) := by decide +kernel
theorem dX3_lies_22 : decode cX3_lies 22 = .ok (.if_icmp .lt 13, 3) := by decide +kernel
theorem dX3_lies_25 : decode cX3_lies 25 = .ok (.new 134, 3) := by decide +kernel
theorem dX3_lies_28 : decode cX3_lies 28 = .ok (.dup, 1) := by decide +kernel
theorem dX3_lies_29 : decode cX3_lies 29 = .ok (.ldc 136, 2) := by decide +kernel
theorem dX3_lies_31 : decode cX3_lies 31 = .ok (.invokespecial 138, 3) := by decide +kernel
theorem dX3_lies_34 : decode cX3_lies 34 = .ok (.athrow, 1) := by decide +kernel
theorem dX3_lies_35 : decode cX3_lies 35 = .ok (.aload 4, 2) := by decide +kernel
theorem dX3_lies_37 : decode cX3_lies 37 = .ok (.iload_n 2, 1) := by decide +kernel
theorem dX3_lies_38 : decode cX3_lies 38 = .ok (.iload_n 3, 1) := by decide +kernel
theorem dX3_lies_39 : decode cX3_lies 39 = .ok (.invokevirtual 139, 3) := by decide +kernel
