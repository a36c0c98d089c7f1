theorem dX4_quench_0 : decode cX4_quench 0 = .ok (.aload_n 0, 1) := by decide +kernel
theorem dX4_quench_1 : decode cX4_quench 1 = .ok (.iload_n 1, 1) := by decide +kernel
theorem dX4_quench_2 : decode cX4_quench 2 = .ok (.invokevirtual 73, 3) := by decide +kernel
theorem dX4_quench_5 : decode cX4_quench 5 = .ok (.istore_n 2, 1) := by decide +kernel
theorem dX4_quench_6 : decode cX4_quench 6 = .ok (.aload_n 0, 1) := by decide +kernel
theorem dX4_quench_7 : decode cX4_quench 7 = .ok (.getfield 19, 3) := by decide +kernel
theorem dX4_quench_10 : decode cX4_quench 10 = .ok (.iload_n 1, 1) := by decide +kernel
theorem dX4_quench_11 : decode cX4_quench 11 = .ok (.iconst (-1), 1) := by decide +kernel
theorem dX4_quench_12 : decode cX4_quench 12 = .ok (.iastore, 1) := by decide +kernel
theorem dX4_quench_13 : decode cX4_quench 13 = .ok (.aload_n 0, 1) := by decide +kernel
theorem dX4_quench_14 : decode cX4_quench 14 = .ok (.dup, 1) := by decide +kernel
theorem dX4_quench_15 : decode cX4_quench 15 = .ok (.getfield 57, 3) := by decide +kernel
theorem dX4_quench_18 : decode cX4_quench 18 = .ok (.iconst 1, 1) := by decide +kernel
theorem dX4_quench_19 : decode cX4_quench 19 = .ok (.iadd, 1) := by decide +kernel
theorem dX4_quench_20 : decode cX4_quench 20 = .ok (.putfield 57, 3) := by decide +kernel
theorem dX4_quench_23 : decode cX4_quench 23 = .ok (.iload_n 2, 1) := by decide +kernel
theorem dX4_quench_24 : decode cX4_quench 24 = .ok (.ireturn, 1) := by decide +kernel
theorem dX5_init_0 : decode cX5_init 0 = .ok (.aload_n 0, 1) := by decide +kernel
theorem dX5_init_1 : decode cX5_init 1 = .ok (.invokespecial 1, 3) := by decide +kernel
theorem dX5_init_4 : decode cX5_init 4 = .ok (.aload_n 0, 1) := by decide +kernel
theorem dX5_init_5 : decode cX5_init 5 = .ok (.new 7, 3) := by decide +kernel
theorem dX5_init_8 : decode cX5_init 8 = .ok (.dup, 1) := by decide +kernel
theorem dX5_init_9 : decode cX5_init 9 = .ok (.aload_n 0, 1) := by decide +kernel
theorem dX5_init_10 : decode cX5_init 10 = .ok (.invokespecial 9, 3) := by decide +kernel
theorem dX5_init_13 : decode cX5_init 13 = .ok (.putfield 12, 3) := by decide +kernel
theorem dX5_init_16 : decode cX5_init 16 = .ok (.aload_n 0, 1) := by decide +kernel
theorem dX5_init_17 : decode cX5_init 17 = .ok (.new 7, 3) := by decide +kernel
theorem dX5_init_20 : decode cX5_init 20 = .ok (.dup, 1) := by decide +kernel
theorem dX5_init_21 : decode cX5_init 21 = .ok (.aload_n 0, 1) := by decide +kernel
theorem dX5_init_22 : decode cX5_init 22 = .ok (.invokespecial 9, 3) := by decide +kernel
theorem dX5_init_25 : decode cX5_init 25 = .ok (.putfield 18, 3) := by decide +kernel
theorem dX5_init_28 : decode cX5_init 28 = .ok (.return_, 1) := by decide +kernel
theorem dX5_thrown_0 : decode cX5_thrown 0 = .ok (.aload_n 0, 1) := by decide +kernel
theorem dX5_thrown_1 : decode cX5_thrown 1 = .ok (.getfield 21, 3) := by decide +kernel
theorem dX5_thrown_4 : decode cX5_thrown 4 = .ok (.ireturn, 1) := by decide +kernel
theorem dX5_no_0 : decode cX5_no 0 = .ok (.aload_n 0, 1) := by decide +kernel
theorem dX5_no_1 : decode cX5_no 1 = .ok (.iload_n 1, 1) := by decide +kernel
theorem dX5_no_2 : decode cX5_no 2 = .ok (.putfield 21, 3) := by decide +kernel
theorem dX5_no_5 : decode cX5_no 5 = .ok (.iconst 0, 1) := by decide +kernel
theorem dX5_no_6 : decode cX5_no 6 = .ok (.ireturn, 1) := by decide +kernel
theorem dX5_isIn_0 : decode cX5_isIn 0 = .ok (.iload_n 0, 1) := by decide +kernel
theorem dX5_isIn_1 : decode cX5_isIn 1 = .ok (.iload_n 1, 1) := by decide +kernel
theorem dX5_isIn_2 : decode cX5_isIn 2 = .ok (.if_icmp .lt 12, 3) := by decide +kernel
theorem dX5_isIn_5 : decode cX5_isIn 5 = .ok (.iload_n 0, 1) := by decide +kernel
theorem dX5_isIn_6 : decode cX5_isIn 6 = .ok (.iload_n 2, 1) := by decide +kernel
theorem dX5_isIn_7 : decode cX5_isIn 7 = .ok (.if_icmp .gt 7, 3) := by decide +kernel
theorem dX5_isIn_10 : decode cX5_isIn 10 = .ok (.iconst 1, 1) := by decide +kernel
theorem dX5_isIn_11 : decode cX5_isIn 11 = .ok (.goto 4, 3) := by decide +kernel
theorem dX5_isIn_14 : decode cX5_isIn 14 = .ok (.iconst 0, 1) := by decide +kernel
theorem dX5_isIn_15 : decode cX5_isIn 15 = .ok (.ireturn, 1) := by decide +kernel
theorem dX5_isHearth_0 : decode cX5_isHearth 0 = .ok (.iload_n 0, 1) := by decide +kernel
theorem dX5_isHearth_1 : decode cX5_isHearth 1 = .ok (.iconst 0, 1) := by decide +kernel
theorem dX5_isHearth_2 : decode cX5_isHearth 2 = .ok (.iconst 1, 1) := by decide +kernel
theorem dX5_isHearth_3 : decode cX5_isHearth 3 = .ok (.invokestatic 25, 3) := by decide +kernel
theorem dX5_isHearth_6 : decode cX5_isHearth 6 = .ok (.ireturn, 1) := by decide +kernel
theorem dX5_isEmber_0 : decode cX5_isEmber 0 = .ok (.iload_n 1, 1) := by decide +kernel
theorem dX5_isEmber_1 : decode cX5_isEmber 1 = .ok (.iconst 0, 1) := by decide +kernel
theorem dX5_isEmber_2 : decode cX5_isEmber 2 = .ok (.aload_n 0, 1) := by decide +kernel
theorem dX5_isEmber_3 : decode cX5_isEmber 3 = .ok (.getfield 29, 3) := by decide +kernel
theorem dX5_isEmber_6 : decode cX5_isEmber 6 = .ok (.iconst 1, 1) := by decide +kernel
theorem dX5_isEmber_7 : decode cX5_isEmber 7 = .ok (.isub, 1) := by decide +kernel
theorem dX5_isEmber_8 : decode cX5_isEmber 8 = .ok (.invokestatic 25, 3) := by decide +kernel
theorem dX5_isEmber_11 : decode cX5_isEmber 11 = .ok (.ireturn, 1) := by decide +kernel
theorem dX5_light_0 : decode cX5_light 0 = .ok (.aload_n 0, 1) := by decide +kernel
theorem dX5_light_1 : decode cX5_light 1 = .ok (.iconst 0, 1) := by decide +kernel
theorem dX5_light_2 : decode cX5_light 2 = .ok (.putfield 21, 3) := by decide +kernel
theorem dX5_light_5 : decode cX5_light 5 = .ok (.iload_n 1, 1) := by decide +kernel
theorem dX5_light_6 : decode cX5_light 6 = .ok (.invokestatic 32, 3) := by decide +kernel
theorem dX5_light_9 : decode cX5_light 9 = .ok (.ifCond .ne 9, 3) := by decide +kernel
theorem dX5_light_12 : decode cX5_light 12 = .ok (.aload_n 0, 1) := by decide +kernel
theorem dX5_light_13 : decode cX5_light 13 = .ok (.iconst 1, 1) := by decide +kernel
theorem dX5_light_14 : decode cX5_light 14 = .ok (.invokevirtual 36, 3) := by decide +kernel
theorem dX5_light_17 : decode cX5_light 17 = .ok (.ireturn, 1) := by decide +kernel
theorem dX5_light_18 : decode cX5_light 18 = .ok (.iload_n 2, 1) := by decide +kernel
theorem dX5_light_19 : decode cX5_light 19 = .ok (.aload_n 0, 1) := by decide +kernel
theorem dX5_light_20 : decode cX5_light 20 = .ok (.getfield 12, 3) := by decide +kernel
theorem dX5_light_23 : decode cX5_light 23 = .ok (.getfield 40, 3) := by decide +kernel
theorem dX5_light_26 : decode cX5_light 26 = .ok (.iload_n 1, 1) := by decide +kernel
theorem dX5_light_27 : decode cX5_light 27 = .ok (.iaload, 1) := by decide +kernel
theorem dX5_light_28 : decode cX5_light 28 = .ok (.sipush 1023, 3) := by decide +kernel
theorem dX5_light_31 : decode cX5_light 31 = .ok (.invokestatic 25, 3) := by decide +kernel
theorem dX5_light_34 : decode cX5_light 34 = .ok (.ifCond .ne 9, 3) := by decide +kernel
theorem dX5_light_37 : decode cX5_light 37 = .ok (.aload_n 0, 1) := by decide +kernel
theorem dX5_light_38 : decode cX5_light 38 = .ok (.iconst 2, 1) := by decide +kernel
theorem dX5_light_39 : decode cX5_light 39 = .ok (.invokevirtual 36, 3) := by decide +kernel
theorem dX5_light_42 : decode cX5_light 42 = .ok (.ireturn, 1) := by decide +kernel
theorem dX5_light_43 : decode cX5_light 43 = .ok (.aload_n 0, 1) := by decide +kernel
theorem dX5_light_44 : decode cX5_light 44 = .ok (.getfield 29, 3) := by decide +kernel
theorem dX5_light_47 : decode cX5_light 47 = .ok (.bipush 40, 2) := by decide +kernel
theorem dX5_light_49 : decode cX5_light 49 = .ok (.if_icmp .ne 9, 3) := by decide +kernel
theorem dX5_light_52 : decode cX5_light 52 = .ok (.aload_n 0, 1) := by decide +kernel
theorem dX5_light_53 : decode cX5_light 53 = .ok (.iconst 3, 1) := by decide +kernel
theorem dX5_light_54 : decode cX5_light 54 = .ok (.invokevirtual 36, 3) := by decide +kernel
theorem dX5_light_57 : decode cX5_light 57 = .ok (.ireturn, 1) := by decide +kernel
theorem dX5_light_58 : decode cX5_light 58 = .ok (.aload_n 0, 1) := by decide +kernel
theorem dX5_light_59 : decode cX5_light 59 = .ok (.getfield 12, 3) := by decide +kernel
theorem dX5_light_62 : decode cX5_light 62 = .ok (.getfield 44, 3) := by decide +kernel
theorem dX5_light_65 : decode cX5_light 65 = .ok (.aload_n 0, 1) := by decide +kernel
theorem dX5_light_66 : decode cX5_light 66 = .ok (.getfield 29, 3) := by decide +kernel
theorem dX5_light_69 : decode cX5_light 69 = .ok (.iload_n 2, 1) := by decide +kernel
theorem dX5_light_70 : decode cX5_light 70 = .ok (.iastore, 1) := by decide +kernel
theorem dX5_light_71 : decode cX5_light 71 = .ok (.aload_n 0, 1) := by decide +kernel
theorem dX5_light_72 : decode cX5_light 72 = .ok (.getfield 12, 3) := by decide +kernel
theorem dX5_light_75 : decode cX5_light 75 = .ok (.aload_n 0, 1) := by decide +kernel
theorem dX5_light_76 : decode cX5_light 76 = .ok (.getfield 29, 3) := by decide +kernel
theorem dX5_light_79 : decode cX5_light 79 = .ok (.iload_n 1, 1) := by decide +kernel
theorem dX5_light_80 : decode cX5_light 80 = .ok (.invokevirtual 47, 3) := by decide +kernel
theorem dX5_light_83 : decode cX5_light 83 = .ok (.aload_n 0, 1) := by decide +kernel
theorem dX5_light_84 : decode cX5_light 84 = .ok (.dup, 1) := by decide +kernel
theorem dX5_light_85 : decode cX5_light 85 = .ok (.getfield 29, 3) := by decide +kernel
theorem dX5_light_88 : decode cX5_light 88 = .ok (.iconst 1, 1) := by decide +kernel
theorem dX5_light_89 : decode cX5_light 89 = .ok (.iadd, 1) := by decide +kernel
theorem dX5_light_90 : decode cX5_light 90 = .ok (.putfield 29, 3) := by decide +kernel
theorem dX5_light_93 : decode cX5_light 93 = .ok (.aload_n 0, 1) := by decide +kernel
theorem dX5_light_94 : decode cX5_light 94 = .ok (.getfield 29, 3) := by decide +kernel
theorem dX5_light_97 : decode cX5_light 97 = .ok (.iconst 1, 1) := by decide +kernel
theorem dX5_light_98 : decode cX5_light 98 = .ok (.isub, 1) := by decide +kernel
theorem dX5_light_99 : decode cX5_light 99 = .ok (.ireturn, 1) := by decide +kernel
theorem dX5_fade_0 : decode cX5_fade 0 = .ok (.aload_n 0, 1) := by decide +kernel
theorem dX5_fade_1 : decode cX5_fade 1 = .ok (.iconst 0, 1) := by decide +kernel
theorem dX5_fade_2 : decode cX5_fade 2 = .ok (.putfield 21, 3) := by decide +kernel
theorem dX5_fade_5 : decode cX5_fade 5 = .ok (.aload_n 0, 1) := by decide +kernel
theorem dX5_fade_6 : decode cX5_fade 6 = .ok (.iload_n 1, 1) := by decide +kernel
theorem dX5_fade_7 : decode cX5_fade 7 = .ok (.invokevirtual 51, 3) := by decide +kernel
theorem dX5_fade_10 : decode cX5_fade 10 = .ok (.ifCond .ne 9, 3) := by decide +kernel
theorem dX5_fade_13 : decode cX5_fade 13 = .ok (.aload_n 0, 1) := by decide +kernel
theorem dX5_fade_14 : decode cX5_fade 14 = .ok (.iconst 1, 1) := by decide +kernel
theorem dX5_fade_15 : decode cX5_fade 15 = .ok (.invokevirtual 36, 3) := by decide +kernel
theorem dX5_fade_18 : decode cX5_fade 18 = .ok (.ireturn, 1) := by decide +kernel
theorem dX5_fade_19 : decode cX5_fade 19 = .ok (.aload_n 0, 1) := by decide +kernel
theorem dX5_fade_20 : decode cX5_fade 20 = .ok (.getfield 12, 3) := by decide +kernel
theorem dX5_fade_23 : decode cX5_fade 23 = .ok (.getfield 54, 3) := by decide +kernel
theorem dX5_fade_26 : decode cX5_fade 26 = .ok (.iload_n 1, 1) := by decide +kernel
theorem dX5_fade_27 : decode cX5_fade 27 = .ok (.iaload, 1) := by decide +kernel
theorem dX5_fade_28 : decode cX5_fade 28 = .ok (.iconst (-1), 1) := by decide +kernel
theorem dX5_fade_29 : decode cX5_fade 29 = .ok (.if_icmp .ne 9, 3) := by decide +kernel
theorem dX5_fade_32 : decode cX5_fade 32 = .ok (.aload_n 0, 1) := by decide +kernel
theorem dX5_fade_33 : decode cX5_fade 33 = .ok (.iconst 2, 1) := by decide +kernel
theorem dX5_fade_34 : decode cX5_fade 34 = .ok (.invokevirtual 36, 3) := by decide +kernel
theorem dX5_fade_37 : decode cX5_fade 37 = .ok (.ireturn, 1) := by decide +kernel
theorem dX5_fade_38 : decode cX5_fade 38 = .ok (.iload_n 2, 1) := by decide +kernel
theorem dX5_fade_39 : decode cX5_fade 39 = .ok (.aload_n 0, 1) := by decide +kernel
theorem dX5_fade_40 : decode cX5_fade 40 = .ok (.getfield 12, 3) := by decide +kernel
theorem dX5_fade_43 : decode cX5_fade 43 = .ok (.getfield 40, 3) := by decide +kernel
theorem dX5_fade_46 : decode cX5_fade 46 = .ok (.aload_n 0, 1) := by decide +kernel
theorem dX5_fade_47 : decode cX5_fade 47 = .ok (.getfield 12, 3) := by decide +kernel
theorem dX5_fade_50 : decode cX5_fade 50 = .ok (.getfield 54, 3) := by decide +kernel
theorem dX5_fade_53 : decode cX5_fade 53 = .ok (.iload_n 1, 1) := by decide +kernel
theorem dX5_fade_54 : decode cX5_fade 54 = .ok (.iaload, 1) := by decide +kernel
theorem dX5_fade_55 : decode cX5_fade 55 = .ok (.iaload, 1) := by decide +kernel
theorem dX5_fade_56 : decode cX5_fade 56 = .ok (.aload_n 0, 1) := by decide +kernel
theorem dX5_fade_57 : decode cX5_fade 57 = .ok (.getfield 12, 3) := by decide +kernel
theorem dX5_fade_60 : decode cX5_fade 60 = .ok (.getfield 44, 3) := by decide +kernel
theorem dX5_fade_63 : decode cX5_fade 63 = .ok (.iload_n 1, 1) := by decide +kernel
theorem dX5_fade_64 : decode cX5_fade 64 = .ok (.iaload, 1) := by decide +kernel
theorem dX5_fade_65 : decode cX5_fade 65 = .ok (.iconst 1, 1) := by decide +kernel
theorem dX5_fade_66 : decode cX5_fade 66 = .ok (.isub, 1) := by decide +kernel
theorem dX5_fade_67 : decode cX5_fade 67 = .ok (.invokestatic 25, 3) := by decide +kernel
theorem dX5_fade_70 : decode cX5_fade 70 = .ok (.ifCond .ne 9, 3) := by decide +kernel
theorem dX5_fade_73 : decode cX5_fade 73 = .ok (.aload_n 0, 1) := by decide +kernel
theorem dX5_fade_74 : decode cX5_fade 74 = .ok (.iconst 3, 1) := by decide +kernel
theorem dX5_fade_75 : decode cX5_fade 75 = .ok (.invokevirtual 36, 3) := by decide +kernel
theorem dX5_fade_78 : decode cX5_fade 78 = .ok (.ireturn, 1) := by decide +kernel
theorem dX5_fade_79 : decode cX5_fade 79 = .ok (.aload_n 0, 1) := by decide +kernel
theorem dX5_fade_80 : decode cX5_fade 80 = .ok (.getfield 12, 3) := by decide +kernel
theorem dX5_fade_83 : decode cX5_fade 83 = .ok (.getfield 44, 3) := by decide +kernel
theorem dX5_fade_86 : decode cX5_fade 86 = .ok (.iload_n 1, 1) := by decide +kernel
theorem dX5_fade_87 : decode cX5_fade 87 = .ok (.iload_n 2, 1) := by decide +kernel
theorem dX5_fade_88 : decode cX5_fade 88 = .ok (.iastore, 1) := by decide +kernel
theorem dX5_fade_89 : decode cX5_fade 89 = .ok (.aload_n 0, 1) := by decide +kernel
theorem dX5_fade_90 : decode cX5_fade 90 = .ok (.getfield 12, 3) := by decide +kernel
theorem dX5_fade_93 : decode cX5_fade 93 = .ok (.iload_n 1, 1) := by decide +kernel
theorem dX5_fade_94 : decode cX5_fade 94 = .ok (.aload_n 0, 1) := by decide +kernel
theorem dX5_fade_95 : decode cX5_fade 95 = .ok (.getfield 12, 3) := by decide +kernel
theorem dX5_fade_98 : decode cX5_fade 98 = .ok (.getfield 54, 3) := by decide +kernel
theorem dX5_fade_101 : decode cX5_fade 101 = .ok (.iload_n 1, 1) := by decide +kernel
theorem dX5_fade_102 : decode cX5_fade 102 = .ok (.iaload, 1) := by decide +kernel
theorem dX5_fade_103 : decode cX5_fade 103 = .ok (.invokevirtual 47, 3) := by decide +kernel
theorem dX5_fade_106 : decode cX5_fade 106 = .ok (.aload_n 0, 1) := by decide +kernel
theorem dX5_fade_107 : decode cX5_fade 107 = .ok (.getfield 12, 3) := by decide +kernel
theorem dX5_fade_110 : decode cX5_fade 110 = .ok (.iload_n 1, 1) := by decide +kernel
theorem dX5_fade_111 : decode cX5_fade 111 = .ok (.invokevirtual 57, 3) := by decide +kernel
theorem dX5_fade_114 : decode cX5_fade 114 = .ok (.ireturn, 1) := by decide +kernel
theorem dX5_quench_0 : decode cX5_quench 0 = .ok (.aload_n 0, 1) := by decide +kernel
theorem dX5_quench_1 : decode cX5_quench 1 = .ok (.iconst 0, 1) := by decide +kernel
theorem dX5_quench_2 : decode cX5_quench 2 = .ok (.putfield 21, 3) := by decide +kernel
theorem dX5_quench_5 : decode cX5_quench 5 = .ok (.aload_n 0, 1) := by decide +kernel
theorem dX5_quench_6 : decode cX5_quench 6 = .ok (.iload_n 1, 1) := by decide +kernel
theorem dX5_quench_7 : decode cX5_quench 7 = .ok (.invokevirtual 51, 3) := by decide +kernel
theorem dX5_quench_10 : decode cX5_quench 10 = .ok (.ifCond .ne 9, 3) := by decide +kernel
theorem dX5_quench_13 : decode cX5_quench 13 = .ok (.aload_n 0, 1) := by decide +kernel
theorem dX5_quench_14 : decode cX5_quench 14 = .ok (.iconst 1, 1) := by decide +kernel
theorem dX5_quench_15 : decode cX5_quench 15 = .ok (.invokevirtual 36, 3) := by decide +kernel
theorem dX5_quench_18 : decode cX5_quench 18 = .ok (.ireturn, 1) := by decide +kernel
theorem dX5_quench_19 : decode cX5_quench 19 = .ok (.aload_n 0, 1) := by decide +kernel
theorem dX5_quench_20 : decode cX5_quench 20 = .ok (.getfield 12, 3) := by decide +kernel
theorem dX5_quench_23 : decode cX5_quench 23 = .ok (.getfield 54, 3) := by decide +kernel
theorem dX5_quench_26 : decode cX5_quench 26 = .ok (.iload_n 1, 1) := by decide +kernel
theorem dX5_quench_27 : decode cX5_quench 27 = .ok (.iaload, 1) := by decide +kernel
theorem dX5_quench_28 : decode cX5_quench 28 = .ok (.iconst (-1), 1) := by decide +kernel
theorem dX5_quench_29 : decode cX5_quench 29 = .ok (.if_icmp .ne 11, 3) := by decide +kernel
theorem dX5_quench_32 : decode cX5_quench 32 = .ok (.aload_n 0, 1) := by decide +kernel
theorem dX5_quench_33 : decode cX5_quench 33 = .ok (.iconst 2, 1) := by decide +kernel
theorem dX5_quench_34 : decode cX5_quench 34 = .ok (.invokevirtual 36, 3) := by decide +kernel
theorem dX5_quench_37 : decode cX5_quench 37 = .ok (.goto 11, 3) := by decide +kernel
theorem dX5_quench_40 : decode cX5_quench 40 = .ok (.aload_n 0, 1) := by decide +kernel
theorem dX5_quench_41 : decode cX5_quench 41 = .ok (.getfield 12, 3) := by decide +kernel
theorem dX5_quench_44 : decode cX5_quench 44 = .ok (.iload_n 1, 1) := by decide +kernel
theorem dX5_quench_45 : decode cX5_quench 45 = .ok (.invokevirtual 60, 3) := by decide +kernel
theorem dX5_quench_48 : decode cX5_quench 48 = .ok (.ireturn, 1) := by decide +kernel
theorem dX5_rake_0 : decode cX5_rake 0 = .ok (.aload_n 0, 1) := by decide +kernel
theorem dX5_rake_1 : decode cX5_rake 1 = .ok (.iconst 0, 1) := by decide +kernel
theorem dX5_rake_2 : decode cX5_rake 2 = .ok (.putfield 21, 3) := by decide +kernel
theorem dX5_rake_5 : decode cX5_rake 5 = .ok (.iload_n 1, 1) := by decide +kernel
theorem dX5_rake_6 : decode cX5_rake 6 = .ok (.invokestatic 32, 3) := by decide +kernel
theorem dX5_rake_9 : decode cX5_rake 9 = .ok (.ifCond .ne 9, 3) := by decide +kernel
theorem dX5_rake_12 : decode cX5_rake 12 = .ok (.aload_n 0, 1) := by decide +kernel
theorem dX5_rake_13 : decode cX5_rake 13 = .ok (.iconst 1, 1) := by decide +kernel
theorem dX5_rake_14 : decode cX5_rake 14 = .ok (.invokevirtual 36, 3) := by decide +kernel
theorem dX5_rake_17 : decode cX5_rake 17 = .ok (.ireturn, 1) := by decide +kernel
theorem dX5_rake_18 : decode cX5_rake 18 = .ok (.aload_n 0, 1) := by decide +kernel
theorem dX5_rake_19 : decode cX5_rake 19 = .ok (.getfield 12, 3) := by decide +kernel
theorem dX5_rake_22 : decode cX5_rake 22 = .ok (.iload_n 1, 1) := by decide +kernel
theorem dX5_rake_23 : decode cX5_rake 23 = .ok (.invokevirtual 63, 3) := by decide +kernel
theorem dX5_rake_26 : decode cX5_rake 26 = .ok (.ifCond .ne 11, 3) := by decide +kernel
theorem dX5_rake_29 : decode cX5_rake 29 = .ok (.aload_n 0, 1) := by decide +kernel
theorem dX5_rake_30 : decode cX5_rake 30 = .ok (.iconst 2, 1) := by decide +kernel
theorem dX5_rake_31 : decode cX5_rake 31 = .ok (.invokevirtual 36, 3) := by decide +kernel
theorem dX5_rake_34 : decode cX5_rake 34 = .ok (.goto 11, 3) := by decide +kernel
theorem dX5_rake_37 : decode cX5_rake 37 = .ok (.aload_n 0, 1) := by decide +kernel
theorem dX5_rake_38 : decode cX5_rake 38 = .ok (.getfield 12, 3) := by decide +kernel
theorem dX5_rake_41 : decode cX5_rake 41 = .ok (.iload_n 1, 1) := by decide +kernel
theorem dX5_rake_42 : decode cX5_rake 42 = .ok (.invokevirtual 66, 3) := by decide +kernel
theorem dX5_rake_45 : decode cX5_rake 45 = .ok (.ireturn, 1) := by decide +kernel
theorem dX5_raise_0 : decode cX5_raise 0 = .ok (.aload_n 0, 1) := by decide +kernel
theorem dX5_raise_1 : decode cX5_raise 1 = .ok (.iconst 0, 1) := by decide +kernel
theorem dX5_raise_2 : decode cX5_raise 2 = .ok (.putfield 21, 3) := by decide +kernel
theorem dX5_raise_5 : decode cX5_raise 5 = .ok (.iload_n 1, 1) := by decide +kernel
theorem dX5_raise_6 : decode cX5_raise 6 = .ok (.invokestatic 32, 3) := by decide +kernel
theorem dX5_raise_9 : decode cX5_raise 9 = .ok (.ifCond .ne 9, 3) := by decide +kernel
theorem dX5_raise_12 : decode cX5_raise 12 = .ok (.aload_n 0, 1) := by decide +kernel
theorem dX5_raise_13 : decode cX5_raise 13 = .ok (.iconst 1, 1) := by decide +kernel
theorem dX5_raise_14 : decode cX5_raise 14 = .ok (.invokevirtual 36, 3) := by decide +kernel
theorem dX5_raise_17 : decode cX5_raise 17 = .ok (.ireturn, 1) := by decide +kernel
theorem dX5_raise_18 : decode cX5_raise 18 = .ok (.iload_n 2, 1) := by decide +kernel
theorem dX5_raise_19 : decode cX5_raise 19 = .ok (.aload_n 0, 1) := by decide +kernel
theorem dX5_raise_20 : decode cX5_raise 20 = .ok (.getfield 12, 3) := by decide +kernel
theorem dX5_raise_23 : decode cX5_raise 23 = .ok (.getfield 40, 3) := by decide +kernel
theorem dX5_raise_26 : decode cX5_raise 26 = .ok (.iload_n 1, 1) := by decide +kernel
theorem dX5_raise_27 : decode cX5_raise 27 = .ok (.iaload, 1) := by decide +kernel
theorem dX5_raise_28 : decode cX5_raise 28 = .ok (.aload_n 0, 1) := by decide +kernel
theorem dX5_raise_29 : decode cX5_raise 29 = .ok (.getfield 12, 3) := by decide +kernel
theorem dX5_raise_32 : decode cX5_raise 32 = .ok (.iload_n 1, 1) := by decide +kernel
theorem dX5_raise_33 : decode cX5_raise 33 = .ok (.invokevirtual 69, 3) := by decide +kernel
theorem dX5_raise_36 : decode cX5_raise 36 = .ok (.invokestatic 25, 3) := by decide +kernel
theorem dX5_raise_39 : decode cX5_raise 39 = .ok (.ifCond .eq 15, 3) := by decide +kernel
theorem dX5_raise_42 : decode cX5_raise 42 = .ok (.aload_n 0, 1) := by decide +kernel
theorem dX5_raise_43 : decode cX5_raise 43 = .ok (.getfield 12, 3) := by decide +kernel
theorem dX5_raise_46 : decode cX5_raise 46 = .ok (.iload_n 1, 1) := by decide +kernel
theorem dX5_raise_47 : decode cX5_raise 47 = .ok (.iload_n 2, 1) := by decide +kernel
theorem dX5_raise_48 : decode cX5_raise 48 = .ok (.invokevirtual 72, 3) := by decide +kernel
theorem dX5_raise_51 : decode cX5_raise 51 = .ok (.goto 8, 3) := by decide +kernel
theorem dX5_raise_54 : decode cX5_raise 54 = .ok (.aload_n 0, 1) := by decide +kernel
theorem dX5_raise_55 : decode cX5_raise 55 = .ok (.iconst 2, 1) := by decide +kernel
theorem dX5_raise_56 : decode cX5_raise 56 = .ok (.invokevirtual 36, 3) := by decide +kernel
theorem dX5_raise_59 : decode cX5_raise 59 = .ok (.ireturn, 1) := by decide +kernel
theorem dX5_pour_0 : decode cX5_pour 0 = .ok (.aload_n 0, 1) := by decide +kernel
theorem dX5_pour_1 : decode cX5_pour 1 = .ok (.iconst 0, 1) := by decide +kernel
theorem dX5_pour_2 : decode cX5_pour 2 = .ok (.putfield 21, 3) := by decide +kernel
theorem dX5_pour_5 : decode cX5_pour 5 = .ok (.iload_n 1, 1) := by decide +kernel
theorem dX5_pour_6 : decode cX5_pour 6 = .ok (.invokestatic 32, 3) := by decide +kernel
theorem dX5_pour_9 : decode cX5_pour 9 = .ok (.ifCond .ne 9, 3) := by decide +kernel
theorem dX5_pour_12 : decode cX5_pour 12 = .ok (.aload_n 0, 1) := by decide +kernel
theorem dX5_pour_13 : decode cX5_pour 13 = .ok (.iconst 1, 1) := by decide +kernel
theorem dX5_pour_14 : decode cX5_pour 14 = .ok (.invokevirtual 36, 3) := by decide +kernel
theorem dX5_pour_17 : decode cX5_pour 17 = .ok (.ireturn, 1) := by decide +kernel
theorem dX5_pour_18 : decode cX5_pour 18 = .ok (.aload_n 0, 1) := by decide +kernel
theorem dX5_pour_19 : decode cX5_pour 19 = .ok (.getfield 12, 3) := by decide +kernel
theorem dX5_pour_22 : decode cX5_pour 22 = .ok (.iload_n 1, 1) := by decide +kernel
theorem dX5_pour_23 : decode cX5_pour 23 = .ok (.invokevirtual 63, 3) := by decide +kernel
theorem dX5_pour_26 : decode cX5_pour 26 = .ok (.ifCond .le 33, 3) := by decide +kernel
theorem dX5_pour_29 : decode cX5_pour 29 = .ok (.aload_n 0, 1) := by decide +kernel
theorem dX5_pour_30 : decode cX5_pour 30 = .ok (.getfield 12, 3) := by decide +kernel
theorem dX5_pour_33 : decode cX5_pour 33 = .ok (.iload_n 1, 1) := by decide +kernel
theorem dX5_pour_34 : decode cX5_pour 34 = .ok (.invokevirtual 69, 3) := by decide +kernel
theorem dX5_pour_37 : decode cX5_pour 37 = .ok (.aload_n 0, 1) := by decide +kernel
theorem dX5_pour_38 : decode cX5_pour 38 = .ok (.getfield 12, 3) := by decide +kernel
theorem dX5_pour_41 : decode cX5_pour 41 = .ok (.getfield 40, 3) := by decide +kernel
theorem dX5_pour_44 : decode cX5_pour 44 = .ok (.iconst 1, 1) := by decide +kernel
theorem dX5_pour_45 : decode cX5_pour 45 = .ok (.iload_n 1, 1) := by decide +kernel
theorem dX5_pour_46 : decode cX5_pour 46 = .ok (.isub, 1) := by decide +kernel
theorem dX5_pour_47 : decode cX5_pour 47 = .ok (.iaload, 1) := by decide +kernel
theorem dX5_pour_48 : decode cX5_pour 48 = .ok (.if_icmp .ge 11, 3) := by decide +kernel
theorem dX5_pour_51 : decode cX5_pour 51 = .ok (.aload_n 0, 1) := by decide +kernel
theorem dX5_pour_52 : decode cX5_pour 52 = .ok (.iconst 2, 1) := by decide +kernel
theorem dX5_pour_53 : decode cX5_pour 53 = .ok (.invokevirtual 36, 3) := by decide +kernel
theorem dX5_pour_56 : decode cX5_pour 56 = .ok (.goto 11, 3) := by decide +kernel
theorem dX5_pour_59 : decode cX5_pour 59 = .ok (.aload_n 0, 1) := by decide +kernel
theorem dX5_pour_60 : decode cX5_pour 60 = .ok (.getfield 12, 3) := by decide +kernel
theorem dX5_pour_63 : decode cX5_pour 63 = .ok (.iload_n 1, 1) := by decide +kernel
theorem dX5_pour_64 : decode cX5_pour 64 = .ok (.invokevirtual 76, 3) := by decide +kernel
theorem dX5_pour_67 : decode cX5_pour 67 = .ok (.ireturn, 1) := by decide +kernel
theorem dX5_many_0 : decode cX5_many 0 = .ok (.aload_n 0, 1) := by decide +kernel
theorem dX5_many_1 : decode cX5_many 1 = .ok (.iconst 0, 1) := by decide +kernel
theorem dX5_many_2 : decode cX5_many 2 = .ok (.putfield 21, 3) := by decide +kernel
theorem dX5_many_5 : decode cX5_many 5 = .ok (.iload_n 1, 1) := by decide +kernel
theorem dX5_many_6 : decode cX5_many 6 = .ok (.invokestatic 32, 3) := by decide +kernel
theorem dX5_many_9 : decode cX5_many 9 = .ok (.ifCond .eq 25, 3) := by decide +kernel
theorem dX5_many_12 : decode cX5_many 12 = .ok (.iload_n 2, 1) := by decide +kernel
theorem dX5_many_13 : decode cX5_many 13 = .ok (.iconst 0, 1) := by decide +kernel
theorem dX5_many_14 : decode cX5_many 14 = .ok (.bipush 10, 2) := by decide +kernel
theorem dX5_many_16 : decode cX5_many 16 = .ok (.invokestatic 25, 3) := by decide +kernel
theorem dX5_many_19 : decode cX5_many 19 = .ok (.ifCond .eq 15, 3) := by decide +kernel
theorem dX5_many_22 : decode cX5_many 22 = .ok (.aload_n 0, 1) := by decide +kernel
theorem dX5_many_23 : decode cX5_many 23 = .ok (.getfield 12, 3) := by decide +kernel
theorem dX5_many_26 : decode cX5_many 26 = .ok (.iload_n 1, 1) := by decide +kernel
theorem dX5_many_27 : decode cX5_many 27 = .ok (.iload_n 2, 1) := by decide +kernel
theorem dX5_many_28 : decode cX5_many 28 = .ok (.invokevirtual 79, 3) := by decide +kernel
theorem dX5_many_31 : decode cX5_many 31 = .ok (.goto 8, 3) := by decide +kernel
theorem dX5_many_34 : decode cX5_many 34 = .ok (.aload_n 0, 1) := by decide +kernel
theorem dX5_many_35 : decode cX5_many 35 = .ok (.iconst 1, 1) := by decide +kernel
theorem dX5_many_36 : decode cX5_many 36 = .ok (.invokevirtual 36, 3) := by decide +kernel
theorem dX5_many_39 : decode cX5_many 39 = .ok (.ireturn, 1) := by decide +kernel
theorem dX5_lies_0 : decode cX5_lies 0 = .ok (.aload_n 0, 1) := by decide +kernel
theorem dX5_lies_1 : decode cX5_lies 1 = .ok (.iconst 0, 1) := by decide +kernel
theorem dX5_lies_2 : decode cX5_lies 2 = .ok (.putfield 21, 3) := by decide +kernel
theorem dX5_lies_5 : decode cX5_lies 5 = .ok (.iload_n 1, 1) := by decide +kernel
theorem dX5_lies_6 : decode cX5_lies 6 = .ok (.invokestatic 32, 3) := by decide +kernel
theorem dX5_lies_9 : decode cX5_lies 9 = .ok (.ifCond .eq 13, 3) := by decide +kernel
theorem dX5_lies_12 : decode cX5_lies 12 = .ok (.iload_n 2, 1) := by decide +kernel
theorem dX5_lies_13 : decode cX5_lies 13 = .ok (.iconst 0, 1) := by decide +kernel
theorem dX5_lies_14 : decode cX5_lies 14 = .ok (.bipush 10, 2) := by decide +kernel
theorem dX5_lies_16 : decode cX5_lies 16 = .ok (.invokestatic 25, 3) := by decide +kernel
theorem dX5_lies_19 : decode cX5_lies 19 = .ok (.ifCond .ne 9, 3) := by decide +kernel
theorem dX5_lies_22 : decode cX5_lies 22 = .ok (.aload_n 0, 1) := by decide +kernel
theorem dX5_lies_23 : decode cX5_lies 23 = .ok (.iconst 1, 1) := by decide +kernel
theorem dX5_lies_24 : decode cX5_lies 24 = .ok (.invokevirtual 36, 3) := by decide +kernel
theorem dX5_lies_27 : decode cX5_lies 27 = .ok (.ireturn, 1) := by decide +kernel
theorem dX5_lies_28 : decode cX5_lies 28 = .ok (.iload_n 3, 1) := by decide +kernel
theorem dX5_lies_29 : decode cX5_lies 29 = .ok (.iconst 0, 1) := by decide +kernel
theorem dX5_lies_30 : decode cX5_lies 30 = .ok (.aload_n 0, 1) := by decide +kernel
theorem dX5_lies_31 : decode cX5_lies 31 = .ok (.getfield 12, 3) := by decide +kernel
theorem dX5_lies_34 : decode cX5_lies 34 = .ok (.iload_n 1, 1) := by decide +kernel
theorem dX5_lies_35 : decode cX5_lies 35 = .ok (.iload_n 2, 1) := by decide +kernel
theorem dX5_lies_36 : decode cX5_lies 36 = .ok (.invokevirtual 79, 3) := by decide +kernel
theorem dX5_lies_39 : decode cX5_lies 39 = .ok (.iconst 1, 1) := by decide +kernel
theorem dX5_lies_40 : decode cX5_lies 40 = .ok (.isub, 1) := by decide +kernel
theorem dX5_lies_41 : decode cX5_lies 41 = .ok (.invokestatic 25, 3) := by decide +kernel
theorem dX5_lies_44 : decode cX5_lies 44 = .ok (.ifCond .eq 15, 3) := by decide +kernel
theorem dX5_lies_47 : decode cX5_lies 47 = .ok (.aload_n 0, 1) := by decide +kernel
theorem dX5_lies_48 : decode cX5_lies 48 = .ok (.getfield 12, 3) := by decide +kernel
theorem dX5_lies_51 : decode cX5_lies 51 = .ok (.getfield 82, 3) := by decide +kernel
theorem dX5_lies_54 : decode cX5_lies 54 = .ok (.iload_n 3, 1) := by decide +kernel
theorem dX5_lies_55 : decode cX5_lies 55 = .ok (.iaload, 1) := by decide +kernel
theorem dX5_lies_56 : decode cX5_lies 56 = .ok (.goto 8, 3) := by decide +kernel
theorem dX5_lies_59 : decode cX5_lies 59 = .ok (.aload_n 0, 1) := by decide +kernel
theorem dX5_lies_60 : decode cX5_lies 60 = .ok (.iconst 1, 1) := by decide +kernel
theorem dX5_lies_61 : decode cX5_lies 61 = .ok (.invokevirtual 36, 3) := by decide +kernel
theorem dX5_lies_64 : decode cX5_lies 64 = .ok (.ireturn, 1) := by decide +kernel
theorem dX5_bucketOf_0 : decode cX5_bucketOf 0 = .ok (.aload_n 0, 1) := by decide +kernel
theorem dX5_bucketOf_1 : decode cX5_bucketOf 1 = .ok (.iconst 0, 1) := by decide +kernel
theorem dX5_bucketOf_2 : decode cX5_bucketOf 2 = .ok (.putfield 21, 3) := by decide +kernel
theorem dX5_bucketOf_5 : decode cX5_bucketOf 5 = .ok (.iload_n 1, 1) := by decide +kernel
theorem dX5_bucketOf_6 : decode cX5_bucketOf 6 = .ok (.invokestatic 32, 3) := by decide +kernel
theorem dX5_bucketOf_9 : decode cX5_bucketOf 9 = .ok (.ifCond .ne 9, 3) := by decide +kernel
theorem dX5_bucketOf_12 : decode cX5_bucketOf 12 = .ok (.aload_n 0, 1) := by decide +kernel
theorem dX5_bucketOf_13 : decode cX5_bucketOf 13 = .ok (.iconst 1, 1) := by decide +kernel
theorem dX5_bucketOf_14 : decode cX5_bucketOf 14 = .ok (.invokevirtual 36, 3) := by decide +kernel
theorem dX5_bucketOf_17 : decode cX5_bucketOf 17 = .ok (.ireturn, 1) := by decide +kernel
theorem dX5_bucketOf_18 : decode cX5_bucketOf 18 = .ok (.iload_n 2, 1) := by decide +kernel
theorem dX5_bucketOf_19 : decode cX5_bucketOf 19 = .ok (.aload_n 0, 1) := by decide +kernel
theorem dX5_bucketOf_20 : decode cX5_bucketOf 20 = .ok (.getfield 12, 3) := by decide +kernel
theorem dX5_bucketOf_23 : decode cX5_bucketOf 23 = .ok (.getfield 40, 3) := by decide +kernel
theorem dX5_bucketOf_26 : decode cX5_bucketOf 26 = .ok (.iload_n 1, 1) := by decide +kernel
theorem dX5_bucketOf_27 : decode cX5_bucketOf 27 = .ok (.iaload, 1) := by decide +kernel
theorem dX5_bucketOf_28 : decode cX5_bucketOf 28 = .ok (.sipush 1023, 3) := by decide +kernel
theorem dX5_bucketOf_31 : decode cX5_bucketOf 31 = .ok (.invokestatic 25, 3) := by decide +kernel
theorem dX5_bucketOf_34 : decode cX5_bucketOf 34 = .ok (.ifCond .eq 15, 3) := by decide +kernel
theorem dX5_bucketOf_37 : decode cX5_bucketOf 37 = .ok (.aload_n 0, 1) := by decide +kernel
theorem dX5_bucketOf_38 : decode cX5_bucketOf 38 = .ok (.getfield 12, 3) := by decide +kernel
theorem dX5_bucketOf_41 : decode cX5_bucketOf 41 = .ok (.iload_n 1, 1) := by decide +kernel
theorem dX5_bucketOf_42 : decode cX5_bucketOf 42 = .ok (.iload_n 2, 1) := by decide +kernel
theorem dX5_bucketOf_43 : decode cX5_bucketOf 43 = .ok (.invokevirtual 85, 3) := by decide +kernel
theorem dX5_bucketOf_46 : decode cX5_bucketOf 46 = .ok (.goto 8, 3) := by decide +kernel
theorem dX5_bucketOf_49 : decode cX5_bucketOf 49 = .ok (.aload_n 0, 1) := by decide +kernel
theorem dX5_bucketOf_50 : decode cX5_bucketOf 50 = .ok (.iconst 2, 1) := by decide +kernel
theorem dX5_bucketOf_51 : decode cX5_bucketOf 51 = .ok (.invokevirtual 36, 3) := by decide +kernel
theorem dX5_bucketOf_54 : decode cX5_bucketOf 54 = .ok (.ireturn, 1) := by decide +kernel
theorem dX5_hearthTold_0 : decode cX5_hearthTold 0 = .ok (.iload_n 2, 1) := by decide +kernel
theorem dX5_hearthTold_1 : decode cX5_hearthTold 1 = .ok (.tableswitch 84 0 4 #[35, 44, 54, 64, 74], 35) := by decide +kernel
theorem dX5_hearthTold_36 : decode cX5_hearthTold 36 = .ok (.aload_n 0, 1) := by decide +kernel
theorem dX5_hearthTold_37 : decode cX5_hearthTold 37 = .ok (.getfield 12, 3) := by decide +kernel
theorem dX5_hearthTold_40 : decode cX5_hearthTold 40 = .ok (.iload_n 1, 1) := by decide +kernel
theorem dX5_hearthTold_41 : decode cX5_hearthTold 41 = .ok (.invokevirtual 63, 3) := by decide +kernel
theorem dX5_hearthTold_44 : decode cX5_hearthTold 44 = .ok (.ireturn, 1) := by decide +kernel
theorem dX5_hearthTold_45 : decode cX5_hearthTold 45 = .ok (.aload_n 0, 1) := by decide +kernel
theorem dX5_hearthTold_46 : decode cX5_hearthTold 46 = .ok (.getfield 12, 3) := by decide +kernel
theorem dX5_hearthTold_49 : decode cX5_hearthTold 49 = .ok (.getfield 40, 3) := by decide +kernel
theorem dX5_hearthTold_52 : decode cX5_hearthTold 52 = .ok (.iload_n 1, 1) := by decide +kernel
theorem dX5_hearthTold_53 : decode cX5_hearthTold 53 = .ok (.iaload, 1) := by decide +kernel
theorem dX5_hearthTold_54 : decode cX5_hearthTold 54 = .ok (.ireturn, 1) := by decide +kernel
theorem dX5_hearthTold_55 : decode cX5_hearthTold 55 = .ok (.aload_n 0, 1) := by decide +kernel
theorem dX5_hearthTold_56 : decode cX5_hearthTold 56 = .ok (.getfield 12, 3) := by decide +kernel
theorem dX5_hearthTold_59 : decode cX5_hearthTold 59 = .ok (.iload_n 1, 1) := by decide +kernel
theorem dX5_hearthTold_60 : decode cX5_hearthTold 60 = .ok (.iconst 1, 1) := by decide +kernel
theorem dX5_hearthTold_61 : decode cX5_hearthTold 61 = .ok (.invokevirtual 88, 3) := by decide +kernel
theorem dX5_hearthTold_64 : decode cX5_hearthTold 64 = .ok (.ireturn, 1) := by decide +kernel
theorem dX5_hearthTold_65 : decode cX5_hearthTold 65 = .ok (.aload_n 0, 1) := by decide +kernel
theorem dX5_hearthTold_66 : decode cX5_hearthTold 66 = .ok (.getfield 12, 3) := by decide +kernel
theorem dX5_hearthTold_69 : decode cX5_hearthTold 69 = .ok (.iload_n 1, 1) := by decide +kernel
theorem dX5_hearthTold_70 : decode cX5_hearthTold 70 = .ok (.iconst 0, 1) := by decide +kernel
theorem dX5_hearthTold_71 : decode cX5_hearthTold 71 = .ok (.invokevirtual 88, 3) := by decide +kernel
theorem dX5_hearthTold_74 : decode cX5_hearthTold 74 = .ok (.ireturn, 1) := by decide +kernel
theorem dX5_hearthTold_75 : decode cX5_hearthTold 75 = .ok (.aload_n 0, 1) := by decide +kernel
theorem dX5_hearthTold_76 : decode cX5_hearthTold 76 = .ok (.getfield 12, 3) := by decide +kernel
theorem dX5_hearthTold_79 : decode cX5_hearthTold 79 = .ok (.getfield 92, 3) := by decide +kernel
theorem dX5_hearthTold_82 : decode cX5_hearthTold 82 = .ok (.iload_n 1, 1) := by decide +kernel
theorem dX5_hearthTold_83 : decode cX5_hearthTold 83 = .ok (.iaload, 1) := by decide +kernel
theorem dX5_hearthTold_84 : decode cX5_hearthTold 84 = .ok (.ireturn, 1) := by decide +kernel
theorem dX5_hearthTold_85 : decode cX5_hearthTold 85 = .ok (.aload_n 0, 1) := by decide +kernel
theorem dX5_hearthTold_86 : decode cX5_hearthTold 86 = .ok (.getfield 12, 3) := by decide +kernel
theorem dX5_hearthTold_89 : decode cX5_hearthTold 89 = .ok (.iload_n 1, 1) := by decide +kernel
theorem dX5_hearthTold_90 : decode cX5_hearthTold 90 = .ok (.invokevirtual 95, 3) := by decide +kernel
theorem dX5_hearthTold_93 : decode cX5_hearthTold 93 = .ok (.ireturn, 1) := by decide +kernel
theorem dX5_about_0 : decode cX5_about 0 = .ok (.aload_n 0, 1) := by decide +kernel
theorem dX5_about_1 : decode cX5_about 1 = .ok (.iconst 0, 1) := by decide +kernel
theorem dX5_about_2 : decode cX5_about 2 = .ok (.putfield 21, 3) := by decide +kernel
theorem dX5_about_5 : decode cX5_about 5 = .ok (.iload_n 1, 1) := by decide +kernel
theorem dX5_about_6 : decode cX5_about 6 = .ok (.invokestatic 32, 3) := by decide +kernel
theorem dX5_about_9 : decode cX5_about 9 = .ok (.ifCond .eq 21, 3) := by decide +kernel
theorem dX5_about_12 : decode cX5_about 12 = .ok (.iload_n 2, 1) := by decide +kernel
theorem dX5_about_13 : decode cX5_about 13 = .ok (.iconst 0, 1) := by decide +kernel
theorem dX5_about_14 : decode cX5_about 14 = .ok (.iconst 5, 1) := by decide +kernel
theorem dX5_about_15 : decode cX5_about 15 = .ok (.invokestatic 25, 3) := by decide +kernel
theorem dX5_about_18 : decode cX5_about 18 = .ok (.ifCond .eq 12, 3) := by decide +kernel
theorem dX5_about_21 : decode cX5_about 21 = .ok (.aload_n 0, 1) := by decide +kernel
theorem dX5_about_22 : decode cX5_about 22 = .ok (.iload_n 1, 1) := by decide +kernel
theorem dX5_about_23 : decode cX5_about 23 = .ok (.iload_n 2, 1) := by decide +kernel
theorem dX5_about_24 : decode cX5_about 24 = .ok (.invokevirtual 98, 3) := by decide +kernel
theorem dX5_about_27 : decode cX5_about 27 = .ok (.goto 8, 3) := by decide +kernel
theorem dX5_about_30 : decode cX5_about 30 = .ok (.aload_n 0, 1) := by decide +kernel
theorem dX5_about_31 : decode cX5_about 31 = .ok (.iconst 1, 1) := by decide +kernel
theorem dX5_about_32 : decode cX5_about 32 = .ok (.invokevirtual 36, 3) := by decide +kernel
theorem dX5_about_35 : decode cX5_about 35 = .ok (.ireturn, 1) := by decide +kernel
theorem dX5_emberTold_0 : decode cX5_emberTold 0 = .ok (.iload_n 2, 1) := by decide +kernel
theorem dX5_emberTold_1 : decode cX5_emberTold 1 = .ok (.tableswitch 70 0 3 #[31, 41, 51, 60], 31) := by decide +kernel
theorem dX5_emberTold_32 : decode cX5_emberTold 32 = .ok (.aload_n 0, 1) := by decide +kernel
theorem dX5_emberTold_33 : decode cX5_emberTold 33 = .ok (.getfield 12, 3) := by decide +kernel
theorem dX5_emberTold_36 : decode cX5_emberTold 36 = .ok (.getfield 44, 3) := by decide +kernel
theorem dX5_emberTold_39 : decode cX5_emberTold 39 = .ok (.iload_n 1, 1) := by decide +kernel
theorem dX5_emberTold_40 : decode cX5_emberTold 40 = .ok (.iaload, 1) := by decide +kernel
theorem dX5_emberTold_41 : decode cX5_emberTold 41 = .ok (.ireturn, 1) := by decide +kernel
theorem dX5_emberTold_42 : decode cX5_emberTold 42 = .ok (.aload_n 0, 1) := by decide +kernel
theorem dX5_emberTold_43 : decode cX5_emberTold 43 = .ok (.getfield 12, 3) := by decide +kernel
theorem dX5_emberTold_46 : decode cX5_emberTold 46 = .ok (.getfield 54, 3) := by decide +kernel
theorem dX5_emberTold_49 : decode cX5_emberTold 49 = .ok (.iload_n 1, 1) := by decide +kernel
theorem dX5_emberTold_50 : decode cX5_emberTold 50 = .ok (.iaload, 1) := by decide +kernel
theorem dX5_emberTold_51 : decode cX5_emberTold 51 = .ok (.ireturn, 1) := by decide +kernel
theorem dX5_emberTold_52 : decode cX5_emberTold 52 = .ok (.aload_n 0, 1) := by decide +kernel
theorem dX5_emberTold_53 : decode cX5_emberTold 53 = .ok (.getfield 12, 3) := by decide +kernel
theorem dX5_emberTold_56 : decode cX5_emberTold 56 = .ok (.iload_n 1, 1) := by decide +kernel
theorem dX5_emberTold_57 : decode cX5_emberTold 57 = .ok (.invokevirtual 57, 3) := by decide +kernel
theorem dX5_emberTold_60 : decode cX5_emberTold 60 = .ok (.ireturn, 1) := by decide +kernel
theorem dX5_emberTold_61 : decode cX5_emberTold 61 = .ok (.aload_n 0, 1) := by decide +kernel
theorem dX5_emberTold_62 : decode cX5_emberTold 62 = .ok (.getfield 12, 3) := by decide +kernel
theorem dX5_emberTold_65 : decode cX5_emberTold 65 = .ok (.getfield 101, 3) := by decide +kernel
theorem dX5_emberTold_68 : decode cX5_emberTold 68 = .ok (.iload_n 1, 1) := by decide +kernel
theorem dX5_emberTold_69 : decode cX5_emberTold 69 = .ok (.iaload, 1) := by decide +kernel
theorem dX5_emberTold_70 : decode cX5_emberTold 70 = .ok (.ireturn, 1) := by decide +kernel
theorem dX5_emberTold_71 : decode cX5_emberTold 71 = .ok (.aload_n 0, 1) := by decide +kernel
theorem dX5_emberTold_72 : decode cX5_emberTold 72 = .ok (.getfield 12, 3) := by decide +kernel
theorem dX5_emberTold_75 : decode cX5_emberTold 75 = .ok (.getfield 104, 3) := by decide +kernel
theorem dX5_emberTold_78 : decode cX5_emberTold 78 = .ok (.iload_n 1, 1) := by decide +kernel
theorem dX5_emberTold_79 : decode cX5_emberTold 79 = .ok (.iaload, 1) := by decide +kernel
theorem dX5_emberTold_80 : decode cX5_emberTold 80 = .ok (.ireturn, 1) := by decide +kernel
theorem dX5_told_0 : decode cX5_told 0 = .ok (.aload_n 0, 1) := by decide +kernel
theorem dX5_told_1 : decode cX5_told 1 = .ok (.iconst 0, 1) := by decide +kernel
theorem dX5_told_2 : decode cX5_told 2 = .ok (.putfield 21, 3) := by decide +kernel
theorem dX5_told_5 : decode cX5_told 5 = .ok (.aload_n 0, 1) := by decide +kernel
theorem dX5_told_6 : decode cX5_told 6 = .ok (.iload_n 1, 1) := by decide +kernel
theorem dX5_told_7 : decode cX5_told 7 = .ok (.invokevirtual 51, 3) := by decide +kernel
theorem dX5_told_10 : decode cX5_told 10 = .ok (.ifCond .eq 21, 3) := by decide +kernel
theorem dX5_told_13 : decode cX5_told 13 = .ok (.iload_n 2, 1) := by decide +kernel
theorem dX5_told_14 : decode cX5_told 14 = .ok (.iconst 0, 1) := by decide +kernel
theorem dX5_told_15 : decode cX5_told 15 = .ok (.iconst 4, 1) := by decide +kernel
theorem dX5_told_16 : decode cX5_told 16 = .ok (.invokestatic 25, 3) := by decide +kernel
theorem dX5_told_19 : decode cX5_told 19 = .ok (.ifCond .eq 12, 3) := by decide +kernel
theorem dX5_told_22 : decode cX5_told 22 = .ok (.aload_n 0, 1) := by decide +kernel
theorem dX5_told_23 : decode cX5_told 23 = .ok (.iload_n 1, 1) := by decide +kernel
theorem dX5_told_24 : decode cX5_told 24 = .ok (.iload_n 2, 1) := by decide +kernel
theorem dX5_told_25 : decode cX5_told 25 = .ok (.invokevirtual 107, 3) := by decide +kernel
theorem dX5_told_28 : decode cX5_told 28 = .ok (.goto 8, 3) := by decide +kernel
theorem dX5_told_31 : decode cX5_told 31 = .ok (.aload_n 0, 1) := by decide +kernel
theorem dX5_told_32 : decode cX5_told 32 = .ok (.iconst 1, 1) := by decide +kernel
theorem dX5_told_33 : decode cX5_told 33 = .ok (.invokevirtual 36, 3) := by decide +kernel
theorem dX5_told_36 : decode cX5_told 36 = .ok (.ireturn, 1) := by decide +kernel
theorem dX5_counted_0 : decode cX5_counted 0 = .ok (.iconst 5, 1) := by decide +kernel
theorem dX5_counted_1 : decode cX5_counted 1 = .ok (.newarray .int, 2) := by decide +kernel
theorem dX5_counted_3 : decode cX5_counted 3 = .ok (.dup, 1) := by decide +kernel
theorem dX5_counted_4 : decode cX5_counted 4 = .ok (.iconst 0, 1) := by decide +kernel
theorem dX5_counted_5 : decode cX5_counted 5 = .ok (.aload_n 0, 1) := by decide +kernel
theorem dX5_counted_6 : decode cX5_counted 6 = .ok (.getfield 29, 3) := by decide +kernel
theorem dX5_counted_9 : decode cX5_counted 9 = .ok (.iastore, 1) := by decide +kernel
theorem dX5_counted_10 : decode cX5_counted 10 = .ok (.dup, 1) := by decide +kernel
theorem dX5_counted_11 : decode cX5_counted 11 = .ok (.iconst 1, 1) := by decide +kernel
theorem dX5_counted_12 : decode cX5_counted 12 = .ok (.aload_n 0, 1) := by decide +kernel
theorem dX5_counted_13 : decode cX5_counted 13 = .ok (.getfield 12, 3) := by decide +kernel
theorem dX5_counted_16 : decode cX5_counted 16 = .ok (.iconst 0, 1) := by decide +kernel
theorem dX5_counted_17 : decode cX5_counted 17 = .ok (.invokevirtual 63, 3) := by decide +kernel
theorem dX5_counted_20 : decode cX5_counted 20 = .ok (.aload_n 0, 1) := by decide +kernel
theorem dX5_counted_21 : decode cX5_counted 21 = .ok (.getfield 12, 3) := by decide +kernel
theorem dX5_counted_24 : decode cX5_counted 24 = .ok (.iconst 1, 1) := by decide +kernel
theorem dX5_counted_25 : decode cX5_counted 25 = .ok (.invokevirtual 63, 3) := by decide +kernel
theorem dX5_counted_28 : decode cX5_counted 28 = .ok (.iadd, 1) := by decide +kernel
theorem dX5_counted_29 : decode cX5_counted 29 = .ok (.iastore, 1) := by decide +kernel
theorem dX5_counted_30 : decode cX5_counted 30 = .ok (.dup, 1) := by decide +kernel
theorem dX5_counted_31 : decode cX5_counted 31 = .ok (.iconst 2, 1) := by decide +kernel
theorem dX5_counted_32 : decode cX5_counted 32 = .ok (.aload_n 0, 1) := by decide +kernel
theorem dX5_counted_33 : decode cX5_counted 33 = .ok (.getfield 12, 3) := by decide +kernel
theorem dX5_counted_36 : decode cX5_counted 36 = .ok (.getfield 110, 3) := by decide +kernel
theorem dX5_counted_39 : decode cX5_counted 39 = .ok (.iastore, 1) := by decide +kernel
theorem dX5_counted_40 : decode cX5_counted 40 = .ok (.dup, 1) := by decide +kernel
theorem dX5_counted_41 : decode cX5_counted 41 = .ok (.iconst 3, 1) := by decide +kernel
theorem dX5_counted_42 : decode cX5_counted 42 = .ok (.aload_n 0, 1) := by decide +kernel
theorem dX5_counted_43 : decode cX5_counted 43 = .ok (.getfield 12, 3) := by decide +kernel
theorem dX5_counted_46 : decode cX5_counted 46 = .ok (.getfield 92, 3) := by decide +kernel
theorem dX5_counted_49 : decode cX5_counted 49 = .ok (.iconst 0, 1) := by decide +kernel
theorem dX5_counted_50 : decode cX5_counted 50 = .ok (.iaload, 1) := by decide +kernel
theorem dX5_counted_51 : decode cX5_counted 51 = .ok (.aload_n 0, 1) := by decide +kernel
theorem dX5_counted_52 : decode cX5_counted 52 = .ok (.getfield 12, 3) := by decide +kernel
theorem dX5_counted_55 : decode cX5_counted 55 = .ok (.getfield 92, 3) := by decide +kernel
theorem dX5_counted_58 : decode cX5_counted 58 = .ok (.iconst 1, 1) := by decide +kernel
theorem dX5_counted_59 : decode cX5_counted 59 = .ok (.iaload, 1) := by decide +kernel
theorem dX5_counted_60 : decode cX5_counted 60 = .ok (.iadd, 1) := by decide +kernel
theorem dX5_counted_61 : decode cX5_counted 61 = .ok (.iastore, 1) := by decide +kernel
theorem dX5_counted_62 : decode cX5_counted 62 = .ok (.dup, 1) := by decide +kernel
theorem dX5_counted_63 : decode cX5_counted 63 = .ok (.iconst 4, 1) := by decide +kernel
theorem dX5_counted_64 : decode cX5_counted 64 = .ok (.aload_n 0, 1) := by decide +kernel
theorem dX5_counted_65 : decode cX5_counted 65 = .ok (.getfield 12, 3) := by decide +kernel
theorem dX5_counted_68 : decode cX5_counted 68 = .ok (.getfield 113, 3) := by decide +kernel
theorem dX5_counted_71 : decode cX5_counted 71 = .ok (.iastore, 1) := by decide +kernel
theorem dX5_counted_72 : decode cX5_counted 72 = .ok (.astore_n 2, 1) := by decide +kernel
theorem dX5_counted_73 : decode cX5_counted 73 = .ok (.aload_n 2, 1) := by decide +kernel
theorem dX5_counted_74 : decode cX5_counted 74 = .ok (.iload_n 1, 1) := by decide +kernel
theorem dX5_counted_75 : decode cX5_counted 75 = .ok (.iaload, 1) := by decide +kernel
theorem dX5_counted_76 : decode cX5_counted 76 = .ok (.ireturn, 1) := by decide +kernel
theorem dX5_count_0 : decode cX5_count 0 = .ok (.aload_n 0, 1) := by decide +kernel
theorem dX5_count_1 : decode cX5_count 1 = .ok (.iconst 0, 1) := by decide +kernel
theorem dX5_count_2 : decode cX5_count 2 = .ok (.putfield 21, 3) := by decide +kernel
theorem dX5_count_5 : decode cX5_count 5 = .ok (.iload_n 1, 1) := by decide +kernel
theorem dX5_count_6 : decode cX5_count 6 = .ok (.iconst 0, 1) := by decide +kernel
theorem dX5_count_7 : decode cX5_count 7 = .ok (.iconst 4, 1) := by decide +kernel
theorem dX5_count_8 : decode cX5_count 8 = .ok (.invokestatic 25, 3) := by decide +kernel
theorem dX5_count_11 : decode cX5_count 11 = .ok (.ifCond .eq 11, 3) := by decide +kernel
theorem dX5_count_14 : decode cX5_count 14 = .ok (.aload_n 0, 1) := by decide +kernel
theorem dX5_count_15 : decode cX5_count 15 = .ok (.iload_n 1, 1) := by decide +kernel
theorem dX5_count_16 : decode cX5_count 16 = .ok (.invokevirtual 116, 3) := by decide +kernel
theorem dX5_count_19 : decode cX5_count 19 = .ok (.goto 8, 3) := by decide +kernel
theorem dX5_count_22 : decode cX5_count 22 = .ok (.aload_n 0, 1) := by decide +kernel
theorem dX5_count_23 : decode cX5_count 23 = .ok (.iconst 1, 1) := by decide +kernel
theorem dX5_count_24 : decode cX5_count 24 = .ok (.invokevirtual 36, 3) := by decide +kernel
theorem dX5_count_27 : decode cX5_count 27 = .ok (.ireturn, 1) := by decide +kernel
theorem dX5_next_0 : decode cX5_next 0 = .ok (.aload_n 0, 1) := by decide +kernel
theorem dX5_next_1 : decode cX5_next 1 = .ok (.iconst 0, 1) := by decide +kernel
theorem dX5_next_2 : decode cX5_next 2 = .ok (.putfield 21, 3) := by decide +kernel
theorem dX5_next_5 : decode cX5_next 5 = .ok (.iload_n 1, 1) := by decide +kernel
theorem dX5_next_6 : decode cX5_next 6 = .ok (.invokestatic 32, 3) := by decide +kernel
theorem dX5_next_9 : decode cX5_next 9 = .ok (.ifCond .eq 21, 3) := by decide +kernel
theorem dX5_next_12 : decode cX5_next 12 = .ok (.iload_n 2, 1) := by decide +kernel
theorem dX5_next_13 : decode cX5_next 13 = .ok (.iconst 0, 1) := by decide +kernel
theorem dX5_next_14 : decode cX5_next 14 = .ok (.aload_n 0, 1) := by decide +kernel
theorem dX5_next_15 : decode cX5_next 15 = .ok (.getfield 12, 3) := by decide +kernel
theorem dX5_next_18 : decode cX5_next 18 = .ok (.iload_n 1, 1) := by decide +kernel
theorem dX5_next_19 : decode cX5_next 19 = .ok (.invokevirtual 63, 3) := by decide +kernel
theorem dX5_next_22 : decode cX5_next 22 = .ok (.iconst 1, 1) := by decide +kernel
theorem dX5_next_23 : decode cX5_next 23 = .ok (.isub, 1) := by decide +kernel
theorem dX5_next_24 : decode cX5_next 24 = .ok (.invokestatic 25, 3) := by decide +kernel
theorem dX5_next_27 : decode cX5_next 27 = .ok (.ifCond .ne 9, 3) := by decide +kernel
theorem dX5_next_30 : decode cX5_next 30 = .ok (.aload_n 0, 1) := by decide +kernel
theorem dX5_next_31 : decode cX5_next 31 = .ok (.iconst 1, 1) := by decide +kernel
theorem dX5_next_32 : decode cX5_next 32 = .ok (.invokevirtual 36, 3) := by decide +kernel
theorem dX5_next_35 : decode cX5_next 35 = .ok (.ireturn, 1) := by decide +kernel
theorem dX5_next_36 : decode cX5_next 36 = .ok (.aload_n 0, 1) := by decide +kernel
theorem dX5_next_37 : decode cX5_next 37 = .ok (.getfield 18, 3) := by decide +kernel
theorem dX5_next_40 : decode cX5_next 40 = .ok (.aload_n 0, 1) := by decide +kernel
theorem dX5_next_41 : decode cX5_next 41 = .ok (.getfield 12, 3) := by decide +kernel
theorem dX5_next_44 : decode cX5_next 44 = .ok (.invokevirtual 119, 3) := by decide +kernel
theorem dX5_next_47 : decode cX5_next 47 = .ok (.iload_n 1, 1) := by decide +kernel
theorem dX5_next_48 : decode cX5_next 48 = .ok (.iload_n 2, 1) := by decide +kernel
theorem dX5_next_49 : decode cX5_next 49 = .ok (.invokevirtual 123, 3) := by decide +kernel
theorem dX5_next_52 : decode cX5_next 52 = .ok (.pop, 1) := by decide +kernel
theorem dX5_next_53 : decode cX5_next 53 = .ok (.aload_n 0, 1) := by decide +kernel
theorem dX5_next_54 : decode cX5_next 54 = .ok (.getfield 18, 3) := by decide +kernel
theorem dX5_next_57 : decode cX5_next 57 = .ok (.iload_n 1, 1) := by decide +kernel
theorem dX5_next_58 : decode cX5_next 58 = .ok (.invokevirtual 66, 3) := by decide +kernel
theorem dX5_next_61 : decode cX5_next 61 = .ok (.ireturn, 1) := by decide +kernel
theorem dX5_moves_0 : decode cX5_moves 0 = .ok (.aload_n 0, 1) := by decide +kernel
theorem dX5_moves_1 : decode cX5_moves 1 = .ok (.iconst 0, 1) := by decide +kernel
theorem dX5_moves_2 : decode cX5_moves 2 = .ok (.putfield 21, 3) := by decide +kernel
theorem dX5_moves_5 : decode cX5_moves 5 = .ok (.iload_n 1, 1) := by decide +kernel
theorem dX5_moves_6 : decode cX5_moves 6 = .ok (.invokestatic 32, 3) := by decide +kernel
theorem dX5_moves_9 : decode cX5_moves 9 = .ok (.ifCond .ne 9, 3) := by decide +kernel
theorem dX5_moves_12 : decode cX5_moves 12 = .ok (.aload_n 0, 1) := by decide +kernel
theorem dX5_moves_13 : decode cX5_moves 13 = .ok (.iconst 1, 1) := by decide +kernel
theorem dX5_moves_14 : decode cX5_moves 14 = .ok (.invokevirtual 36, 3) := by decide +kernel
theorem dX5_moves_17 : decode cX5_moves 17 = .ok (.ireturn, 1) := by decide +kernel
theorem dX5_moves_18 : decode cX5_moves 18 = .ok (.iload_n 2, 1) := by decide +kernel
theorem dX5_moves_19 : decode cX5_moves 19 = .ok (.iconst 0, 1) := by decide +kernel
theorem dX5_moves_20 : decode cX5_moves 20 = .ok (.aload_n 0, 1) := by decide +kernel
theorem dX5_moves_21 : decode cX5_moves 21 = .ok (.getfield 12, 3) := by decide +kernel
theorem dX5_moves_24 : decode cX5_moves 24 = .ok (.iload_n 1, 1) := by decide +kernel
theorem dX5_moves_25 : decode cX5_moves 25 = .ok (.invokevirtual 63, 3) := by decide +kernel
theorem dX5_moves_28 : decode cX5_moves 28 = .ok (.invokestatic 25, 3) := by decide +kernel
theorem dX5_moves_31 : decode cX5_moves 31 = .ok (.ifCond .eq 22, 3) := by decide +kernel
theorem dX5_moves_34 : decode cX5_moves 34 = .ok (.aload_n 0, 1) := by decide +kernel
theorem dX5_moves_35 : decode cX5_moves 35 = .ok (.getfield 18, 3) := by decide +kernel
theorem dX5_moves_38 : decode cX5_moves 38 = .ok (.aload_n 0, 1) := by decide +kernel
theorem dX5_moves_39 : decode cX5_moves 39 = .ok (.getfield 12, 3) := by decide +kernel
theorem dX5_moves_42 : decode cX5_moves 42 = .ok (.invokevirtual 119, 3) := by decide +kernel
theorem dX5_moves_45 : decode cX5_moves 45 = .ok (.iload_n 1, 1) := by decide +kernel
theorem dX5_moves_46 : decode cX5_moves 46 = .ok (.iload_n 2, 1) := by decide +kernel
theorem dX5_moves_47 : decode cX5_moves 47 = .ok (.invokevirtual 123, 3) := by decide +kernel
theorem dX5_moves_50 : decode cX5_moves 50 = .ok (.goto 8, 3) := by decide +kernel
theorem dX5_moves_53 : decode cX5_moves 53 = .ok (.aload_n 0, 1) := by decide +kernel
theorem dX5_moves_54 : decode cX5_moves 54 = .ok (.iconst 2, 1) := by decide +kernel
theorem dX5_moves_55 : decode cX5_moves 55 = .ok (.invokevirtual 36, 3) := by decide +kernel
theorem dX5_moves_58 : decode cX5_moves 58 = .ok (.ireturn, 1) := by decide +kernel
theorem dX5_highest_0 : decode cX5_highest 0 = .ok (.aload_n 0, 1) := by decide +kernel
theorem dX5_highest_1 : decode cX5_highest 1 = .ok (.iconst 0, 1) := by decide +kernel
theorem dX5_highest_2 : decode cX5_highest 2 = .ok (.putfield 21, 3) := by decide +kernel
theorem dX5_highest_5 : decode cX5_highest 5 = .ok (.iload_n 1, 1) := by decide +kernel
theorem dX5_highest_6 : decode cX5_highest 6 = .ok (.invokestatic 32, 3) := by decide +kernel
theorem dX5_highest_9 : decode cX5_highest 9 = .ok (.ifCond .eq 14, 3) := by decide +kernel
theorem dX5_highest_12 : decode cX5_highest 12 = .ok (.aload_n 0, 1) := by decide +kernel
theorem dX5_highest_13 : decode cX5_highest 13 = .ok (.getfield 12, 3) := by decide +kernel
theorem dX5_highest_16 : decode cX5_highest 16 = .ok (.iload_n 1, 1) := by decide +kernel
theorem dX5_highest_17 : decode cX5_highest 17 = .ok (.invokevirtual 69, 3) := by decide +kernel
theorem dX5_highest_20 : decode cX5_highest 20 = .ok (.goto 8, 3) := by decide +kernel
theorem dX5_highest_23 : decode cX5_highest 23 = .ok (.aload_n 0, 1) := by decide +kernel
theorem dX5_highest_24 : decode cX5_highest 24 = .ok (.iconst 1, 1) := by decide +kernel
theorem dX5_highest_25 : decode cX5_highest 25 = .ok (.invokevirtual 36, 3) := by decide +kernel
theorem dX5_highest_28 : decode cX5_highest 28 = .ok (.ireturn, 1) := by decide +kernel
theorem dX5_advise_0 : decode cX5_advise 0 = .ok (.aload_n 0, 1) := by decide +kernel
theorem dX5_advise_1 : decode cX5_advise 1 = .ok (.iconst 0, 1) := by decide +kernel
theorem dX5_advise_2 : decode cX5_advise 2 = .ok (.putfield 21, 3) := by decide +kernel
theorem dX5_advise_5 : decode cX5_advise 5 = .ok (.iload_n 1, 1) := by decide +kernel
theorem dX5_advise_6 : decode cX5_advise 6 = .ok (.invokestatic 32, 3) := by decide +kernel
theorem dX5_advise_9 : decode cX5_advise 9 = .ok (.ifCond .ne 9, 3) := by decide +kernel
theorem dX5_advise_12 : decode cX5_advise 12 = .ok (.aload_n 0, 1) := by decide +kernel
theorem dX5_advise_13 : decode cX5_advise 13 = .ok (.iconst 1, 1) := by decide +kernel
theorem dX5_advise_14 : decode cX5_advise 14 = .ok (.invokevirtual 36, 3) := by decide +kernel
theorem dX5_advise_17 : decode cX5_advise 17 = .ok (.ireturn, 1) := by decide +kernel
theorem dX5_advise_18 : decode cX5_advise 18 = .ok (.aload_n 0, 1) := by decide +kernel
theorem dX5_advise_19 : decode cX5_advise 19 = .ok (.getfield 12, 3) := by decide +kernel
theorem dX5_advise_22 : decode cX5_advise 22 = .ok (.iload_n 1, 1) := by decide +kernel
theorem dX5_advise_23 : decode cX5_advise 23 = .ok (.invokevirtual 63, 3) := by decide +kernel
theorem dX5_advise_26 : decode cX5_advise 26 = .ok (.istore_n 2, 1) := by decide +kernel
theorem dX5_advise_27 : decode cX5_advise 27 = .ok (.iconst (-1), 1) := by decide +kernel
theorem dX5_advise_28 : decode cX5_advise 28 = .ok (.istore_n 3, 1) := by decide +kernel
theorem dX5_advise_29 : decode cX5_advise 29 = .ok (.iconst 0, 1) := by decide +kernel
theorem dX5_advise_30 : decode cX5_advise 30 = .ok (.istore 4, 2) := by decide +kernel
theorem dX5_advise_32 : decode cX5_advise 32 = .ok (.iconst 0, 1) := by decide +kernel
theorem dX5_advise_33 : decode cX5_advise 33 = .ok (.istore 5, 2) := by decide +kernel
theorem dX5_advise_35 : decode cX5_advise 35 = .ok (.iload 5, 2) := by decide +kernel
theorem dX5_advise_37 : decode cX5_advise 37 = .ok (.aload_n 0, 1) := by decide +kernel
theorem dX5_advise_38 : decode cX5_advise 38 = .ok (.getfield 29, 3) := by decide +kernel
theorem dX5_advise_41 : decode cX5_advise 41 = .ok (.if_icmp .ge 78, 3) := by decide +kernel
theorem dX5_advise_44 : decode cX5_advise 44 = .ok (.aload_n 0, 1) := by decide +kernel
theorem dX5_advise_45 : decode cX5_advise 45 = .ok (.getfield 12, 3) := by decide +kernel
theorem dX5_advise_48 : decode cX5_advise 48 = .ok (.getfield 54, 3) := by decide +kernel
theorem dX5_advise_51 : decode cX5_advise 51 = .ok (.iload 5, 2) := by decide +kernel
theorem dX5_advise_53 : decode cX5_advise 53 = .ok (.iaload, 1) := by decide +kernel
theorem dX5_advise_54 : decode cX5_advise 54 = .ok (.iload_n 1, 1) := by decide +kernel
theorem dX5_advise_55 : decode cX5_advise 55 = .ok (.if_icmp .eq 6, 3) := by decide +kernel
theorem dX5_advise_58 : decode cX5_advise 58 = .ok (.goto 55, 3) := by decide +kernel
theorem dX5_advise_61 : decode cX5_advise 61 = .ok (.aload_n 0, 1) := by decide +kernel
theorem dX5_advise_62 : decode cX5_advise 62 = .ok (.getfield 18, 3) := by decide +kernel
theorem dX5_advise_65 : decode cX5_advise 65 = .ok (.aload_n 0, 1) := by decide +kernel
theorem dX5_advise_66 : decode cX5_advise 66 = .ok (.getfield 12, 3) := by decide +kernel
theorem dX5_advise_69 : decode cX5_advise 69 = .ok (.invokevirtual 119, 3) := by decide +kernel
theorem dX5_advise_72 : decode cX5_advise 72 = .ok (.iload 5, 2) := by decide +kernel
theorem dX5_advise_74 : decode cX5_advise 74 = .ok (.invokevirtual 60, 3) := by decide +kernel
theorem dX5_advise_77 : decode cX5_advise 77 = .ok (.pop, 1) := by decide +kernel
theorem dX5_advise_78 : decode cX5_advise 78 = .ok (.aload_n 0, 1) := by decide +kernel
theorem dX5_advise_79 : decode cX5_advise 79 = .ok (.getfield 18, 3) := by decide +kernel
theorem dX5_advise_82 : decode cX5_advise 82 = .ok (.iload_n 1, 1) := by decide +kernel
theorem dX5_advise_83 : decode cX5_advise 83 = .ok (.iload_n 2, 1) := by decide +kernel
theorem dX5_advise_84 : decode cX5_advise 84 = .ok (.iconst 1, 1) := by decide +kernel
theorem dX5_advise_85 : decode cX5_advise 85 = .ok (.isub, 1) := by decide +kernel
theorem dX5_advise_86 : decode cX5_advise 86 = .ok (.invokevirtual 123, 3) := by decide +kernel
theorem dX5_advise_89 : decode cX5_advise 89 = .ok (.istore 6, 2) := by decide +kernel
theorem dX5_advise_91 : decode cX5_advise 91 = .ok (.iload_n 3, 1) := by decide +kernel
theorem dX5_advise_92 : decode cX5_advise 92 = .ok (.iconst (-1), 1) := by decide +kernel
theorem dX5_advise_93 : decode cX5_advise 93 = .ok (.if_icmp .eq 13, 3) := by decide +kernel
theorem dX5_advise_96 : decode cX5_advise 96 = .ok (.iload 6, 2) := by decide +kernel
theorem dX5_advise_98 : decode cX5_advise 98 = .ok (.iload 4, 2) := by decide +kernel
theorem dX5_advise_100 : decode cX5_advise 100 = .ok (.if_icmp .lt 6, 3) := by decide +kernel
theorem dX5_advise_103 : decode cX5_advise 103 = .ok (.goto 10, 3) := by decide +kernel
theorem dX5_advise_106 : decode cX5_advise 106 = .ok (.iload 5, 2) := by decide +kernel
theorem dX5_advise_108 : decode cX5_advise 108 = .ok (.istore_n 3, 1) := by decide +kernel
theorem dX5_advise_109 : decode cX5_advise 109 = .ok (.iload 6, 2) := by decide +kernel
theorem dX5_advise_111 : decode cX5_advise 111 = .ok (.istore 4, 2) := by decide +kernel
theorem dX5_advise_113 : decode cX5_advise 113 = .ok (.iinc 5 1, 3) := by decide +kernel
theorem dX5_advise_116 : decode cX5_advise 116 = .ok (.goto (-81), 3) := by decide +kernel
theorem dX5_advise_119 : decode cX5_advise 119 = .ok (.iload_n 3, 1) := by decide +kernel
theorem dX5_advise_120 : decode cX5_advise 120 = .ok (.ireturn, 1) := by decide +kernel
theorem dX5_mean_0 : decode cX5_mean 0 = .ok (.aload_n 0, 1) := by decide +kernel
theorem dX5_mean_1 : decode cX5_mean 1 = .ok (.iconst 0, 1) := by decide +kernel
theorem dX5_mean_2 : decode cX5_mean 2 = .ok (.putfield 21, 3) := by decide +kernel
theorem dX5_mean_5 : decode cX5_mean 5 = .ok (.iconst 0, 1) := by decide +kernel
theorem dX5_mean_6 : decode cX5_mean 6 = .ok (.istore_n 1, 1) := by decide +kernel
theorem dX5_mean_7 : decode cX5_mean 7 = .ok (.iconst 0, 1) := by decide +kernel
theorem dX5_mean_8 : decode cX5_mean 8 = .ok (.istore_n 2, 1) := by decide +kernel
theorem dX5_mean_9 : decode cX5_mean 9 = .ok (.iload_n 2, 1) := by decide +kernel
theorem dX5_mean_10 : decode cX5_mean 10 = .ok (.aload_n 0, 1) := by decide +kernel
theorem dX5_mean_11 : decode cX5_mean 11 = .ok (.getfield 29, 3) := by decide +kernel
theorem dX5_mean_14 : decode cX5_mean 14 = .ok (.if_icmp .ge 38, 3) := by decide +kernel
theorem dX5_mean_17 : decode cX5_mean 17 = .ok (.iload_n 1, 1) := by decide +kernel
theorem dX5_mean_18 : decode cX5_mean 18 = .ok (.aload_n 0, 1) := by decide +kernel
theorem dX5_mean_19 : decode cX5_mean 19 = .ok (.getfield 12, 3) := by decide +kernel
theorem dX5_mean_22 : decode cX5_mean 22 = .ok (.getfield 54, 3) := by decide +kernel
theorem dX5_mean_25 : decode cX5_mean 25 = .ok (.iload_n 2, 1) := by decide +kernel
theorem dX5_mean_26 : decode cX5_mean 26 = .ok (.iaload, 1) := by decide +kernel
theorem dX5_mean_27 : decode cX5_mean 27 = .ok (.iconst (-1), 1) := by decide +kernel
theorem dX5_mean_28 : decode cX5_mean 28 = .ok (.if_icmp .ne 7, 3) := by decide +kernel
theorem dX5_mean_31 : decode cX5_mean 31 = .ok (.iconst 0, 1) := by decide +kernel
theorem dX5_mean_32 : decode cX5_mean 32 = .ok (.goto 12, 3) := by decide +kernel
theorem dX5_mean_35 : decode cX5_mean 35 = .ok (.aload_n 0, 1) := by decide +kernel
theorem dX5_mean_36 : decode cX5_mean 36 = .ok (.getfield 12, 3) := by decide +kernel
theorem dX5_mean_39 : decode cX5_mean 39 = .ok (.getfield 44, 3) := by decide +kernel
theorem dX5_mean_42 : decode cX5_mean 42 = .ok (.iload_n 2, 1) := by decide +kernel
theorem dX5_mean_43 : decode cX5_mean 43 = .ok (.iaload, 1) := by decide +kernel
theorem dX5_mean_44 : decode cX5_mean 44 = .ok (.iadd, 1) := by decide +kernel
theorem dX5_mean_45 : decode cX5_mean 45 = .ok (.istore_n 1, 1) := by decide +kernel
theorem dX5_mean_46 : decode cX5_mean 46 = .ok (.iinc 2 1, 3) := by decide +kernel
theorem dX5_mean_49 : decode cX5_mean 49 = .ok (.goto (-40), 3) := by decide +kernel
theorem dX5_mean_52 : decode cX5_mean 52 = .ok (.aload_n 0, 1) := by decide +kernel
theorem dX5_mean_53 : decode cX5_mean 53 = .ok (.iconst 1, 1) := by decide +kernel
theorem dX5_mean_54 : decode cX5_mean 54 = .ok (.invokevirtual 116, 3) := by decide +kernel
theorem dX5_mean_57 : decode cX5_mean 57 = .ok (.ifCond .ne 7, 3) := by decide +kernel
theorem dX5_mean_60 : decode cX5_mean 60 = .ok (.dconst 0, 1) := by decide +kernel
theorem dX5_mean_61 : decode cX5_mean 61 = .ok (.goto 12, 3) := by decide +kernel
theorem dX5_mean_64 : decode cX5_mean 64 = .ok (.iload_n 1, 1) := by decide +kernel
theorem dX5_mean_65 : decode cX5_mean 65 = .ok (.i2d, 1) := by decide +kernel
theorem dX5_mean_66 : decode cX5_mean 66 = .ok (.aload_n 0, 1) := by decide +kernel
theorem dX5_mean_67 : decode cX5_mean 67 = .ok (.iconst 1, 1) := by decide +kernel
theorem dX5_mean_68 : decode cX5_mean 68 = .ok (.invokevirtual 116, 3) := by decide +kernel
theorem dX5_mean_71 : decode cX5_mean 71 = .ok (.i2d, 1) := by decide +kernel
theorem dX5_mean_72 : decode cX5_mean 72 = .ok (.ddiv, 1) := by decide +kernel
theorem dX5_mean_73 : decode cX5_mean 73 = .ok (.dreturn, 1) := by decide +kernel
theorem dX5_digest_0 : decode cX5_digest 0 = .ok (.aload_n 0, 1) := by decide +kernel
theorem dX5_digest_1 : decode cX5_digest 1 = .ok (.iconst 0, 1) := by decide +kernel
theorem dX5_digest_2 : decode cX5_digest 2 = .ok (.putfield 21, 3) := by decide +kernel
theorem dX5_digest_5 : decode cX5_digest 5 = .ok (.ldc2_w 126, 3) := by decide +kernel
theorem dX5_digest_8 : decode cX5_digest 8 = .ok (.lstore_n 1, 1) := by decide +kernel
theorem dX5_digest_9 : decode cX5_digest 9 = .ok (.iconst 0, 1) := by decide +kernel
theorem dX5_digest_10 : decode cX5_digest 10 = .ok (.istore_n 3, 1) := by decide +kernel
theorem dX5_digest_11 : decode cX5_digest 11 = .ok (.iload_n 3, 1) := by decide +kernel
theorem dX5_digest_12 : decode cX5_digest 12 = .ok (.iconst 4, 1) := by decide +kernel
theorem dX5_digest_13 : decode cX5_digest 13 = .ok (.if_icmp .gt 22, 3) := by decide +kernel
theorem dX5_digest_16 : decode cX5_digest 16 = .ok (.lload_n 1, 1) := by decide +kernel
theorem dX5_digest_17 : decode cX5_digest 17 = .ok (.ldc2_w 128, 3) := by decide +kernel
theorem dX5_digest_20 : decode cX5_digest 20 = .ok (.lmul, 1) := by decide +kernel
theorem dX5_digest_21 : decode cX5_digest 21 = .ok (.aload_n 0, 1) := by decide +kernel
theorem dX5_digest_22 : decode cX5_digest 22 = .ok (.iload_n 3, 1) := by decide +kernel
theorem dX5_digest_23 : decode cX5_digest 23 = .ok (.invokevirtual 116, 3) := by decide +kernel
theorem dX5_digest_26 : decode cX5_digest 26 = .ok (.i2l, 1) := by decide +kernel
theorem dX5_digest_27 : decode cX5_digest 27 = .ok (.ladd, 1) := by decide +kernel
theorem dX5_digest_28 : decode cX5_digest 28 = .ok (.lstore_n 1, 1) := by decide +kernel
theorem dX5_digest_29 : decode cX5_digest 29 = .ok (.iinc 3 1, 3) := by decide +kernel
theorem dX5_digest_32 : decode cX5_digest 32 = .ok (.goto (-21), 3) := by decide +kernel
theorem dX5_digest_35 : decode cX5_digest 35 = .ok (.iconst 0, 1) := by decide +kernel
theorem dX5_digest_36 : decode cX5_digest 36 = .ok (.istore_n 3, 1) := by decide +kernel
theorem dX5_digest_37 : decode cX5_digest 37 = .ok (.iload_n 3, 1) := by decide +kernel
theorem dX5_digest_38 : decode cX5_digest 38 = .ok (.iconst 2, 1) := by decide +kernel
theorem dX5_digest_39 : decode cX5_digest 39 = .ok (.if_icmp .ge 111, 3) := by decide +kernel
theorem dX5_digest_42 : decode cX5_digest 42 = .ok (.iconst 0, 1) := by decide +kernel
theorem dX5_digest_43 : decode cX5_digest 43 = .ok (.istore 4, 2) := by decide +kernel
theorem dX5_digest_45 : decode cX5_digest 45 = .ok (.iload 4, 2) := by decide +kernel
theorem dX5_digest_47 : decode cX5_digest 47 = .ok (.iconst 5, 1) := by decide +kernel
theorem dX5_digest_48 : decode cX5_digest 48 = .ok (.if_icmp .gt 24, 3) := by decide +kernel
theorem dX5_digest_51 : decode cX5_digest 51 = .ok (.lload_n 1, 1) := by decide +kernel
theorem dX5_digest_52 : decode cX5_digest 52 = .ok (.ldc2_w 128, 3) := by decide +kernel
theorem dX5_digest_55 : decode cX5_digest 55 = .ok (.lmul, 1) := by decide +kernel
theorem dX5_digest_56 : decode cX5_digest 56 = .ok (.aload_n 0, 1) := by decide +kernel
theorem dX5_digest_57 : decode cX5_digest 57 = .ok (.iload_n 3, 1) := by decide +kernel
theorem dX5_digest_58 : decode cX5_digest 58 = .ok (.iload 4, 2) := by decide +kernel
theorem dX5_digest_60 : decode cX5_digest 60 = .ok (.invokevirtual 98, 3) := by decide +kernel
theorem dX5_digest_63 : decode cX5_digest 63 = .ok (.i2l, 1) := by decide +kernel
theorem dX5_digest_64 : decode cX5_digest 64 = .ok (.ladd, 1) := by decide +kernel
theorem dX5_digest_65 : decode cX5_digest 65 = .ok (.lstore_n 1, 1) := by decide +kernel
theorem dX5_digest_66 : decode cX5_digest 66 = .ok (.iinc 4 1, 3) := by decide +kernel
theorem dX5_digest_69 : decode cX5_digest 69 = .ok (.goto (-24), 3) := by decide +kernel
theorem dX5_digest_72 : decode cX5_digest 72 = .ok (.iconst 0, 1) := by decide +kernel
theorem dX5_digest_73 : decode cX5_digest 73 = .ok (.istore 4, 2) := by decide +kernel
theorem dX5_digest_75 : decode cX5_digest 75 = .ok (.iload 4, 2) := by decide +kernel
theorem dX5_digest_77 : decode cX5_digest 77 = .ok (.bipush 11, 2) := by decide +kernel
theorem dX5_digest_79 : decode cX5_digest 79 = .ok (.if_icmp .ge 65, 3) := by decide +kernel
theorem dX5_digest_82 : decode cX5_digest 82 = .ok (.aload_n 0, 1) := by decide +kernel
theorem dX5_digest_83 : decode cX5_digest 83 = .ok (.getfield 12, 3) := by decide +kernel
theorem dX5_digest_86 : decode cX5_digest 86 = .ok (.iload_n 3, 1) := by decide +kernel
theorem dX5_digest_87 : decode cX5_digest 87 = .ok (.iload 4, 2) := by decide +kernel
theorem dX5_digest_89 : decode cX5_digest 89 = .ok (.invokevirtual 79, 3) := by decide +kernel
theorem dX5_digest_92 : decode cX5_digest 92 = .ok (.istore 5, 2) := by decide +kernel
theorem dX5_digest_94 : decode cX5_digest 94 = .ok (.lload_n 1, 1) := by decide +kernel
theorem dX5_digest_95 : decode cX5_digest 95 = .ok (.ldc2_w 128, 3) := by decide +kernel
theorem dX5_digest_98 : decode cX5_digest 98 = .ok (.lmul, 1) := by decide +kernel
theorem dX5_digest_99 : decode cX5_digest 99 = .ok (.iload 5, 2) := by decide +kernel
theorem dX5_digest_101 : decode cX5_digest 101 = .ok (.i2l, 1) := by decide +kernel
theorem dX5_digest_102 : decode cX5_digest 102 = .ok (.ladd, 1) := by decide +kernel
theorem dX5_digest_103 : decode cX5_digest 103 = .ok (.lstore_n 1, 1) := by decide +kernel
theorem dX5_digest_104 : decode cX5_digest 104 = .ok (.iconst 0, 1) := by decide +kernel
theorem dX5_digest_105 : decode cX5_digest 105 = .ok (.istore 6, 2) := by decide +kernel
theorem dX5_digest_107 : decode cX5_digest 107 = .ok (.iload 6, 2) := by decide +kernel
theorem dX5_digest_109 : decode cX5_digest 109 = .ok (.iload 5, 2) := by decide +kernel
theorem dX5_digest_111 : decode cX5_digest 111 = .ok (.if_icmp .ge 27, 3) := by decide +kernel
theorem dX5_digest_114 : decode cX5_digest 114 = .ok (.lload_n 1, 1) := by decide +kernel
theorem dX5_digest_115 : decode cX5_digest 115 = .ok (.ldc2_w 128, 3) := by decide +kernel
theorem dX5_digest_118 : decode cX5_digest 118 = .ok (.lmul, 1) := by decide +kernel
theorem dX5_digest_119 : decode cX5_digest 119 = .ok (.aload_n 0, 1) := by decide +kernel
theorem dX5_digest_120 : decode cX5_digest 120 = .ok (.getfield 12, 3) := by decide +kernel
theorem dX5_digest_123 : decode cX5_digest 123 = .ok (.getfield 82, 3) := by decide +kernel
theorem dX5_digest_126 : decode cX5_digest 126 = .ok (.iload 6, 2) := by decide +kernel
theorem dX5_digest_128 : decode cX5_digest 128 = .ok (.iaload, 1) := by decide +kernel
theorem dX5_digest_129 : decode cX5_digest 129 = .ok (.i2l, 1) := by decide +kernel
theorem dX5_digest_130 : decode cX5_digest 130 = .ok (.ladd, 1) := by decide +kernel
theorem dX5_digest_131 : decode cX5_digest 131 = .ok (.lstore_n 1, 1) := by decide +kernel
theorem dX5_digest_132 : decode cX5_digest 132 = .ok (.iinc 6 1, 3) := by decide +kernel
theorem dX5_digest_135 : decode cX5_digest 135 = .ok (.goto (-28), 3) := by decide +kernel
theorem dX5_digest_138 : decode cX5_digest 138 = .ok (.iinc 4 1, 3) := by decide +kernel
theorem dX5_digest_141 : decode cX5_digest 141 = .ok (.goto (-66), 3) := by decide +kernel
theorem dX5_digest_144 : decode cX5_digest 144 = .ok (.iinc 3 1, 3) := by decide +kernel
theorem dX5_digest_147 : decode cX5_digest 147 = .ok (.goto (-110), 3) := by decide +kernel
theorem dX5_digest_150 : decode cX5_digest 150 = .ok (.iconst 0, 1) := by decide +kernel
theorem dX5_digest_151 : decode cX5_digest 151 = .ok (.istore_n 3, 1) := by decide +kernel
theorem dX5_digest_152 : decode cX5_digest 152 = .ok (.iload_n 3, 1) := by decide +kernel
theorem dX5_digest_153 : decode cX5_digest 153 = .ok (.aload_n 0, 1) := by decide +kernel
theorem dX5_digest_154 : decode cX5_digest 154 = .ok (.getfield 29, 3) := by decide +kernel
theorem dX5_digest_157 : decode cX5_digest 157 = .ok (.if_icmp .ge 39, 3) := by decide +kernel
theorem dX5_digest_160 : decode cX5_digest 160 = .ok (.iconst 0, 1) := by decide +kernel
theorem dX5_digest_161 : decode cX5_digest 161 = .ok (.istore 4, 2) := by decide +kernel
theorem dX5_digest_163 : decode cX5_digest 163 = .ok (.iload 4, 2) := by decide +kernel
theorem dX5_digest_165 : decode cX5_digest 165 = .ok (.iconst 4, 1) := by decide +kernel
theorem dX5_digest_166 : decode cX5_digest 166 = .ok (.if_icmp .gt 24, 3) := by decide +kernel
theorem dX5_digest_169 : decode cX5_digest 169 = .ok (.lload_n 1, 1) := by decide +kernel
theorem dX5_digest_170 : decode cX5_digest 170 = .ok (.ldc2_w 128, 3) := by decide +kernel
theorem dX5_digest_173 : decode cX5_digest 173 = .ok (.lmul, 1) := by decide +kernel
theorem dX5_digest_174 : decode cX5_digest 174 = .ok (.aload_n 0, 1) := by decide +kernel
theorem dX5_digest_175 : decode cX5_digest 175 = .ok (.iload_n 3, 1) := by decide +kernel
theorem dX5_digest_176 : decode cX5_digest 176 = .ok (.iload 4, 2) := by decide +kernel
theorem dX5_digest_178 : decode cX5_digest 178 = .ok (.invokevirtual 107, 3) := by decide +kernel
theorem dX5_digest_181 : decode cX5_digest 181 = .ok (.i2l, 1) := by decide +kernel
theorem dX5_digest_182 : decode cX5_digest 182 = .ok (.ladd, 1) := by decide +kernel
theorem dX5_digest_183 : decode cX5_digest 183 = .ok (.lstore_n 1, 1) := by decide +kernel
theorem dX5_digest_184 : decode cX5_digest 184 = .ok (.iinc 4 1, 3) := by decide +kernel
theorem dX5_digest_187 : decode cX5_digest 187 = .ok (.goto (-24), 3) := by decide +kernel
theorem dX5_digest_190 : decode cX5_digest 190 = .ok (.iinc 3 1, 3) := by decide +kernel
theorem dX5_digest_193 : decode cX5_digest 193 = .ok (.goto (-41), 3) := by decide +kernel
theorem dX5_digest_196 : decode cX5_digest 196 = .ok (.lload_n 1, 1) := by decide +kernel
theorem dX5_digest_197 : decode cX5_digest 197 = .ok (.lreturn, 1) := by decide +kernel
theorem dJ6_numberOfLeadingZeros_0f7a4_0 : decode cJ6_numberOfLeadingZeros_0f7a4 0 = .ok (.iload_n 0, 1) := by decide +kernel
theorem dJ6_numberOfLeadingZeros_0f7a4_1 : decode cJ6_numberOfLeadingZeros_0f7a4 1 = .ok (.ifCond .gt 14, 3) := by decide +kernel
theorem dJ6_numberOfLeadingZeros_0f7a4_4 : decode cJ6_numberOfLeadingZeros_0f7a4 4 = .ok (.iload_n 0, 1) := by decide +kernel
theorem dJ6_numberOfLeadingZeros_0f7a4_5 : decode cJ6_numberOfLeadingZeros_0f7a4 5 = .ok (.ifCond .ne 8, 3) := by decide +kernel
theorem dJ6_numberOfLeadingZeros_0f7a4_8 : decode cJ6_numberOfLeadingZeros_0f7a4 8 = .ok (.bipush 32, 2) := by decide +kernel
theorem dJ6_numberOfLeadingZeros_0f7a4_10 : decode cJ6_numberOfLeadingZeros_0f7a4 10 = .ok (.goto 4, 3) := by decide +kernel
theorem dJ6_numberOfLeadingZeros_0f7a4_13 : decode cJ6_numberOfLeadingZeros_0f7a4 13 = .ok (.iconst 0, 1) := by decide +kernel
theorem dJ6_numberOfLeadingZeros_0f7a4_14 : decode cJ6_numberOfLeadingZeros_0f7a4 14 = .ok (.ireturn, 1) := by decide +kernel
theorem dJ6_numberOfLeadingZeros_0f7a4_15 : decode cJ6_numberOfLeadingZeros_0f7a4 15 = .ok (.bipush 31, 2) := by decide +kernel
theorem dJ6_numberOfLeadingZeros_0f7a4_17 : decode cJ6_numberOfLeadingZeros_0f7a4 17 = .ok (.istore_n 1, 1) := by decide +kernel
theorem dJ6_numberOfLeadingZeros_0f7a4_18 : decode cJ6_numberOfLeadingZeros_0f7a4 18 = .ok (.iload_n 0, 1) := by decide +kernel
theorem dJ6_numberOfLeadingZeros_0f7a4_19 : decode cJ6_numberOfLeadingZeros_0f7a4 19 = .ok (.ldc_w 264, 3) := by decide +kernel
theorem dJ6_numberOfLeadingZeros_0f7a4_22 : decode cJ6_numberOfLeadingZeros_0f7a4 22 = .ok (.if_icmp .lt 11, 3) := by decide +kernel
theorem dJ6_numberOfLeadingZeros_0f7a4_25 : decode cJ6_numberOfLeadingZeros_0f7a4 25 = .ok (.iinc 1 (-16), 3) := by decide +kernel
theorem dJ6_numberOfLeadingZeros_0f7a4_28 : decode cJ6_numberOfLeadingZeros_0f7a4 28 = .ok (.iload_n 0, 1) := by decide +kernel
theorem dJ6_numberOfLeadingZeros_0f7a4_29 : decode cJ6_numberOfLeadingZeros_0f7a4 29 = .ok (.bipush 16, 2) := by decide +kernel
theorem dJ6_numberOfLeadingZeros_0f7a4_31 : decode cJ6_numberOfLeadingZeros_0f7a4 31 = .ok (.iushr, 1) := by decide +kernel
theorem dJ6_numberOfLeadingZeros_0f7a4_32 : decode cJ6_numberOfLeadingZeros_0f7a4 32 = .ok (.istore_n 0, 1) := by decide +kernel
theorem dJ6_numberOfLeadingZeros_0f7a4_33 : decode cJ6_numberOfLeadingZeros_0f7a4 33 = .ok (.iload_n 0, 1) := by decide +kernel
theorem dJ6_numberOfLeadingZeros_0f7a4_34 : decode cJ6_numberOfLeadingZeros_0f7a4 34 = .ok (.sipush 256, 3) := by decide +kernel
theorem dJ6_numberOfLeadingZeros_0f7a4_37 : decode cJ6_numberOfLeadingZeros_0f7a4 37 = .ok (.if_icmp .lt 11, 3) := by decide +kernel
theorem dJ6_numberOfLeadingZeros_0f7a4_40 : decode cJ6_numberOfLeadingZeros_0f7a4 40 = .ok (.iinc 1 (-8), 3) := by decide +kernel
theorem dJ6_numberOfLeadingZeros_0f7a4_43 : decode cJ6_numberOfLeadingZeros_0f7a4 43 = .ok (.iload_n 0, 1) := by decide +kernel
theorem dJ6_numberOfLeadingZeros_0f7a4_44 : decode cJ6_numberOfLeadingZeros_0f7a4 44 = .ok (.bipush 8, 2) := by decide +kernel
theorem dJ6_numberOfLeadingZeros_0f7a4_46 : decode cJ6_numberOfLeadingZeros_0f7a4 46 = .ok (.iushr, 1) := by decide +kernel
theorem dJ6_numberOfLeadingZeros_0f7a4_47 : decode cJ6_numberOfLeadingZeros_0f7a4 47 = .ok (.istore_n 0, 1) := by decide +kernel
theorem dJ6_numberOfLeadingZeros_0f7a4_48 : decode cJ6_numberOfLeadingZeros_0f7a4 48 = .ok (.iload_n 0, 1) := by decide +kernel
theorem dJ6_numberOfLeadingZeros_0f7a4_49 : decode cJ6_numberOfLeadingZeros_0f7a4 49 = .ok (.bipush 16, 2) := by decide +kernel
theorem dJ6_numberOfLeadingZeros_0f7a4_51 : decode cJ6_numberOfLeadingZeros_0f7a4 51 = .ok (.if_icmp .lt 10, 3) := by decide +kernel
theorem dJ6_numberOfLeadingZeros_0f7a4_54 : decode cJ6_numberOfLeadingZeros_0f7a4 54 = .ok (.iinc 1 (-4), 3) := by decide +kernel
theorem dJ6_numberOfLeadingZeros_0f7a4_57 : decode cJ6_numberOfLeadingZeros_0f7a4 57 = .ok (.iload_n 0, 1) := by decide +kernel
theorem dJ6_numberOfLeadingZeros_0f7a4_58 : decode cJ6_numberOfLeadingZeros_0f7a4 58 = .ok (.iconst 4, 1) := by decide +kernel
theorem dJ6_numberOfLeadingZeros_0f7a4_59 : decode cJ6_numberOfLeadingZeros_0f7a4 59 = .ok (.iushr, 1) := by decide +kernel
theorem dJ6_numberOfLeadingZeros_0f7a4_60 : decode cJ6_numberOfLeadingZeros_0f7a4 60 = .ok (.istore_n 0, 1) := by decide +kernel
theorem dJ6_numberOfLeadingZeros_0f7a4_61 : decode cJ6_numberOfLeadingZeros_0f7a4 61 = .ok (.iload_n 0, 1) := by decide +kernel
theorem dJ6_numberOfLeadingZeros_0f7a4_62 : decode cJ6_numberOfLeadingZeros_0f7a4 62 = .ok (.iconst 4, 1) := by decide +kernel
theorem dJ6_numberOfLeadingZeros_0f7a4_63 : decode cJ6_numberOfLeadingZeros_0f7a4 63 = .ok (.if_icmp .lt 10, 3) := by decide +kernel
theorem dJ6_numberOfLeadingZeros_0f7a4_66 : decode cJ6_numberOfLeadingZeros_0f7a4 66 = .ok (.iinc 1 (-2), 3) := by decide +kernel
theorem dJ6_numberOfLeadingZeros_0f7a4_69 : decode cJ6_numberOfLeadingZeros_0f7a4 69 = .ok (.iload_n 0, 1) := by decide +kernel
theorem dJ6_numberOfLeadingZeros_0f7a4_70 : decode cJ6_numberOfLeadingZeros_0f7a4 70 = .ok (.iconst 2, 1) := by decide +kernel
theorem dJ6_numberOfLeadingZeros_0f7a4_71 : decode cJ6_numberOfLeadingZeros_0f7a4 71 = .ok (.iushr, 1) := by decide +kernel
theorem dJ6_numberOfLeadingZeros_0f7a4_72 : decode cJ6_numberOfLeadingZeros_0f7a4 72 = .ok (.istore_n 0, 1) := by decide +kernel
theorem dJ6_numberOfLeadingZeros_0f7a4_73 : decode cJ6_numberOfLeadingZeros_0f7a4 73 = .ok (.iload_n 1, 1) := by decide +kernel
theorem dJ6_numberOfLeadingZeros_0f7a4_74 : decode cJ6_numberOfLeadingZeros_0f7a4 74 = .ok (.iload_n 0, 1) := by decide +kernel
theorem dJ6_numberOfLeadingZeros_0f7a4_75 : decode cJ6_numberOfLeadingZeros_0f7a4 75 = .ok (.iconst 1, 1) := by decide +kernel
theorem dJ6_numberOfLeadingZeros_0f7a4_76 : decode cJ6_numberOfLeadingZeros_0f7a4 76 = .ok (.iushr, 1) := by decide +kernel
theorem dJ6_numberOfLeadingZeros_0f7a4_77 : decode cJ6_numberOfLeadingZeros_0f7a4 77 = .ok (.isub, 1) := by decide +kernel
theorem dJ6_numberOfLeadingZeros_0f7a4_78 : decode cJ6_numberOfLeadingZeros_0f7a4 78 = .ok (.ireturn, 1) := by decide +kernel
theorem dJ9_max_7cf53_0 : decode cJ9_max_7cf53 0 = .ok (.iload_n 0, 1) := by decide +kernel
theorem dJ9_max_7cf53_1 : decode cJ9_max_7cf53 1 = .ok (.iload_n 1, 1) := by decide +kernel
theorem dJ9_max_7cf53_2 : decode cJ9_max_7cf53 2 = .ok (.if_icmp .lt 7, 3) := by decide +kernel
theorem dJ9_max_7cf53_5 : decode cJ9_max_7cf53 5 = .ok (.iload_n 0, 1) := by decide +kernel
theorem dJ9_max_7cf53_6 : decode cJ9_max_7cf53 6 = .ok (.goto 4, 3) := by decide +kernel
theorem dJ9_max_7cf53_9 : decode cJ9_max_7cf53 9 = .ok (.iload_n 1, 1) := by decide +kernel
theorem dJ9_max_7cf53_10 : decode cJ9_max_7cf53 10 = .ok (.ireturn, 1) := by decide +kernel
theorem dJ9_min_7cf53_0 : decode cJ9_min_7cf53 0 = .ok (.iload_n 0, 1) := by decide +kernel
theorem dJ9_min_7cf53_1 : decode cJ9_min_7cf53 1 = .ok (.iload_n 1, 1) := by decide +kernel
theorem dJ9_min_7cf53_2 : decode cJ9_min_7cf53 2 = .ok (.if_icmp .gt 7, 3) := by decide +kernel
theorem dJ9_min_7cf53_5 : decode cJ9_min_7cf53 5 = .ok (.iload_n 0, 1) := by decide +kernel
theorem dJ9_min_7cf53_6 : decode cJ9_min_7cf53 6 = .ok (.goto 4, 3) := by decide +kernel
theorem dJ9_min_7cf53_9 : decode cJ9_min_7cf53 9 = .ok (.iload_n 1, 1) := by decide +kernel
theorem dJ9_min_7cf53_10 : decode cJ9_min_7cf53 10 = .ok (.ireturn, 1) := by decide +kernel
theorem dL_light_0 : decode cL_light 0 = .ok (.aload_n 3, 1) := by decide +kernel
theorem dL_light_1 : decode cL_light 1 = .ok (.iconst 0, 1) := by decide +kernel
theorem dL_light_2 : decode cL_light 2 = .ok (.aload_n 0, 1) := by decide +kernel
theorem dL_light_3 : decode cL_light 3 = .ok (.iload_n 1, 1) := by decide +kernel
theorem dL_light_4 : decode cL_light 4 = .ok (.iload_n 2, 1) := by decide +kernel
theorem dL_light_5 : decode cL_light 5 = .ok (.invokevirtual 7, 3) := by decide +kernel
theorem dL_light_8 : decode cL_light 8 = .ok (.i2l, 1) := by decide +kernel
theorem dL_light_9 : decode cL_light 9 = .ok (.lastore, 1) := by decide +kernel
theorem dL_light_10 : decode cL_light 10 = .ok (.goto 15, 3) := by decide +kernel
theorem dL_light_13 : decode cL_light 13 = .ok (.astore 4, 2) := by decide +kernel
theorem dL_light_15 : decode cL_light 15 = .ok (.iconst 1, 1) := by decide +kernel
theorem dL_light_16 : decode cL_light 16 = .ok (.ireturn, 1) := by decide +kernel
theorem dL_light_17 : decode cL_light 17 = .ok (.astore 4, 2) := by decide +kernel
theorem dL_light_19 : decode cL_light 19 = .ok (.iconst 2, 1) := by decide +kernel
theorem dL_light_20 : decode cL_light 20 = .ok (.ireturn, 1) := by decide +kernel
theorem dL_light_21 : decode cL_light 21 = .ok (.astore 4, 2) := by decide +kernel
theorem dL_light_23 : decode cL_light 23 = .ok (.iconst 3, 1) := by decide +kernel
theorem dL_light_24 : decode cL_light 24 = .ok (.ireturn, 1) := by decide +kernel
theorem dL_light_25 : decode cL_light 25 = .ok (.iconst 0, 1) := by decide +kernel
theorem dL_light_26 : decode cL_light 26 = .ok (.ireturn, 1) := by decide +kernel
theorem dL_fade_0 : decode cL_fade 0 = .ok (.aload_n 3, 1) := by decide +kernel
theorem dL_fade_1 : decode cL_fade 1 = .ok (.iconst 0, 1) := by decide +kernel
theorem dL_fade_2 : decode cL_fade 2 = .ok (.aload_n 0, 1) := by decide +kernel
theorem dL_fade_3 : decode cL_fade 3 = .ok (.iload_n 1, 1) := by decide +kernel
theorem dL_fade_4 : decode cL_fade 4 = .ok (.iload_n 2, 1) := by decide +kernel
theorem dL_fade_5 : decode cL_fade 5 = .ok (.invokevirtual 19, 3) := by decide +kernel
theorem dL_fade_8 : decode cL_fade 8 = .ok (.i2l, 1) := by decide +kernel
theorem dL_fade_9 : decode cL_fade 9 = .ok (.lastore, 1) := by decide +kernel
theorem dL_fade_10 : decode cL_fade 10 = .ok (.goto 15, 3) := by decide +kernel
theorem dL_fade_13 : decode cL_fade 13 = .ok (.astore 4, 2) := by decide +kernel
theorem dL_fade_15 : decode cL_fade 15 = .ok (.iconst 1, 1) := by decide +kernel
theorem dL_fade_16 : decode cL_fade 16 = .ok (.ireturn, 1) := by decide +kernel
theorem dL_fade_17 : decode cL_fade 17 = .ok (.astore 4, 2) := by decide +kernel
theorem dL_fade_19 : decode cL_fade 19 = .ok (.iconst 2, 1) := by decide +kernel
theorem dL_fade_20 : decode cL_fade 20 = .ok (.ireturn, 1) := by decide +kernel
theorem dL_fade_21 : decode cL_fade 21 = .ok (.astore 4, 2) := by decide +kernel
theorem dL_fade_23 : decode cL_fade 23 = .ok (.iconst 3, 1) := by decide +kernel
theorem dL_fade_24 : decode cL_fade 24 = .ok (.ireturn, 1) := by decide +kernel
theorem dL_fade_25 : decode cL_fade 25 = .ok (.iconst 0, 1) := by decide +kernel
theorem dL_fade_26 : decode cL_fade 26 = .ok (.ireturn, 1) := by decide +kernel
theorem dL_quench_0 : decode cL_quench 0 = .ok (.aload_n 2, 1) := by decide +kernel
theorem dL_quench_1 : decode cL_quench 1 = .ok (.iconst 0, 1) := by decide +kernel
theorem dL_quench_2 : decode cL_quench 2 = .ok (.aload_n 0, 1) := by decide +kernel
theorem dL_quench_3 : decode cL_quench 3 = .ok (.iload_n 1, 1) := by decide +kernel
theorem dL_quench_4 : decode cL_quench 4 = .ok (.invokevirtual 22, 3) := by decide +kernel
theorem dL_quench_7 : decode cL_quench 7 = .ok (.i2l, 1) := by decide +kernel
theorem dL_quench_8 : decode cL_quench 8 = .ok (.lastore, 1) := by decide +kernel
theorem dL_quench_9 : decode cL_quench 9 = .ok (.goto 9, 3) := by decide +kernel
theorem dL_quench_12 : decode cL_quench 12 = .ok (.astore_n 3, 1) := by decide +kernel
theorem dL_quench_13 : decode cL_quench 13 = .ok (.iconst 1, 1) := by decide +kernel
theorem dL_quench_14 : decode cL_quench 14 = .ok (.ireturn, 1) := by decide +kernel
theorem dL_quench_15 : decode cL_quench 15 = .ok (.astore_n 3, 1) := by decide +kernel
theorem dL_quench_16 : decode cL_quench 16 = .ok (.iconst 2, 1) := by decide +kernel
theorem dL_quench_17 : decode cL_quench 17 = .ok (.ireturn, 1) := by decide +kernel
theorem dL_quench_18 : decode cL_quench 18 = .ok (.iconst 0, 1) := by decide +kernel
theorem dL_quench_19 : decode cL_quench 19 = .ok (.ireturn, 1) := by decide +kernel
theorem dL_rake_0 : decode cL_rake 0 = .ok (.aload_n 2, 1) := by decide +kernel
theorem dL_rake_1 : decode cL_rake 1 = .ok (.iconst 0, 1) := by decide +kernel
theorem dL_rake_2 : decode cL_rake 2 = .ok (.aload_n 0, 1) := by decide +kernel
theorem dL_rake_3 : decode cL_rake 3 = .ok (.iload_n 1, 1) := by decide +kernel
theorem dL_rake_4 : decode cL_rake 4 = .ok (.invokevirtual 26, 3) := by decide +kernel
theorem dL_rake_7 : decode cL_rake 7 = .ok (.i2l, 1) := by decide +kernel
theorem dL_rake_8 : decode cL_rake 8 = .ok (.lastore, 1) := by decide +kernel
theorem dL_rake_9 : decode cL_rake 9 = .ok (.goto 9, 3) := by decide +kernel
theorem dL_rake_12 : decode cL_rake 12 = .ok (.astore_n 3, 1) := by decide +kernel
theorem dL_rake_13 : decode cL_rake 13 = .ok (.iconst 1, 1) := by decide +kernel
theorem dL_rake_14 : decode cL_rake 14 = .ok (.ireturn, 1) := by decide +kernel
theorem dL_rake_15 : decode cL_rake 15 = .ok (.astore_n 3, 1) := by decide +kernel
theorem dL_rake_16 : decode cL_rake 16 = .ok (.iconst 2, 1) := by decide +kernel
theorem dL_rake_17 : decode cL_rake 17 = .ok (.ireturn, 1) := by decide +kernel
theorem dL_rake_18 : decode cL_rake 18 = .ok (.iconst 0, 1) := by decide +kernel
theorem dL_rake_19 : decode cL_rake 19 = .ok (.ireturn, 1) := by decide +kernel
theorem dL_raise_0 : decode cL_raise 0 = .ok (.aload_n 3, 1) := by decide +kernel
theorem dL_raise_1 : decode cL_raise 1 = .ok (.iconst 0, 1) := by decide +kernel
theorem dL_raise_2 : decode cL_raise 2 = .ok (.aload_n 0, 1) := by decide +kernel
theorem dL_raise_3 : decode cL_raise 3 = .ok (.iload_n 1, 1) := by decide +kernel
theorem dL_raise_4 : decode cL_raise 4 = .ok (.iload_n 2, 1) := by decide +kernel
theorem dL_raise_5 : decode cL_raise 5 = .ok (.invokevirtual 29, 3) := by decide +kernel
