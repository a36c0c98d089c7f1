theorem dX3_lies_42 : decode cX3_lies 42 = .ok (.ireturn, 1) := by decide +kernel
theorem dX3_bucketOf_0 : decode cX3_bucketOf 0 = .ok (.aload_n 0, 1) := by decide +kernel
theorem dX3_bucketOf_1 : decode cX3_bucketOf 1 = .ok (.iload_n 1, 1) := by decide +kernel
theorem dX3_bucketOf_2 : decode cX3_bucketOf 2 = .ok (.invokevirtual 31, 3) := by decide +kernel
theorem dX3_bucketOf_5 : decode cX3_bucketOf 5 = .ok (.astore_n 3, 1) := by decide +kernel
theorem dX3_bucketOf_6 : decode cX3_bucketOf 6 = .ok (.aload_n 3, 1) := by decide +kernel
theorem dX3_bucketOf_7 : decode cX3_bucketOf 7 = .ok (.iload_n 2, 1) := by decide +kernel
theorem dX3_bucketOf_8 : decode cX3_bucketOf 8 = .ok (.invokevirtual 35, 3) := by decide +kernel
theorem dX3_bucketOf_11 : decode cX3_bucketOf 11 = .ok (.ifCond .ne 13, 3) := by decide +kernel
theorem dX3_bucketOf_14 : decode cX3_bucketOf 14 = .ok (.new 39, 3) := by decide +kernel
theorem dX3_bucketOf_17 : decode cX3_bucketOf 17 = .ok (.dup, 1) := by decide +kernel
theorem dX3_bucketOf_18 : decode cX3_bucketOf 18 = .ok (.ldc 41, 2) := by decide +kernel
theorem dX3_bucketOf_20 : decode cX3_bucketOf 20 = .ok (.invokespecial 43, 3) := by decide +kernel
theorem dX3_bucketOf_23 : decode cX3_bucketOf 23 = .ok (.athrow, 1) := by decide +kernel
theorem dX3_bucketOf_24 : decode cX3_bucketOf 24 = .ok (.aload_n 3, 1) := by decide +kernel
theorem dX3_bucketOf_25 : decode cX3_bucketOf 25 = .ok (.iload_n 2, 1) := by decide +kernel
theorem dX3_bucketOf_26 : decode cX3_bucketOf 26 = .ok (.invokevirtual 82, 3) := by decide +kernel
theorem dX3_bucketOf_29 : decode cX3_bucketOf 29 = .ok (.ireturn, 1) := by decide +kernel
theorem dX3_about_0 : decode cX3_about 0 = .ok (.aload_n 0, 1) := by decide +kernel
theorem dX3_about_1 : decode cX3_about 1 = .ok (.iload_n 1, 1) := by decide +kernel
theorem dX3_about_2 : decode cX3_about 2 = .ok (.invokevirtual 31, 3) := by decide +kernel
theorem dX3_about_5 : decode cX3_about 5 = .ok (.astore_n 3, 1) := by decide +kernel
theorem dX3_about_6 : decode cX3_about 6 = .ok (.iload_n 2, 1) := by decide +kernel
theorem dX3_about_7 : decode cX3_about 7 = .ok (.tableswitch 67 0 5 #[37, 42, 47, 52, 57, 62], 37) := by decide +kernel
theorem dX3_about_44 : decode cX3_about 44 = .ok (.aload_n 3, 1) := by decide +kernel
theorem dX3_about_45 : decode cX3_about 45 = .ok (.invokevirtual 93, 3) := by decide +kernel
theorem dX3_about_48 : decode cX3_about 48 = .ok (.ireturn, 1) := by decide +kernel
theorem dX3_about_49 : decode cX3_about 49 = .ok (.aload_n 3, 1) := by decide +kernel
theorem dX3_about_50 : decode cX3_about 50 = .ok (.invokevirtual 66, 3) := by decide +kernel
theorem dX3_about_53 : decode cX3_about 53 = .ok (.ireturn, 1) := by decide +kernel
theorem dX3_about_54 : decode cX3_about 54 = .ok (.aload_n 3, 1) := by decide +kernel
theorem dX3_about_55 : decode cX3_about 55 = .ok (.invokevirtual 142, 3) := by decide +kernel
theorem dX3_about_58 : decode cX3_about 58 = .ok (.ireturn, 1) := by decide +kernel
theorem dX3_about_59 : decode cX3_about 59 = .ok (.aload_n 3, 1) := by decide +kernel
theorem dX3_about_60 : decode cX3_about 60 = .ok (.invokevirtual 145, 3) := by decide +kernel
theorem dX3_about_63 : decode cX3_about 63 = .ok (.ireturn, 1) := by decide +kernel
theorem dX3_about_64 : decode cX3_about 64 = .ok (.aload_n 3, 1) := by decide +kernel
theorem dX3_about_65 : decode cX3_about 65 = .ok (.invokevirtual 148, 3) := by decide +kernel
theorem dX3_about_68 : decode cX3_about 68 = .ok (.ireturn, 1) := by decide +kernel
theorem dX3_about_69 : decode cX3_about 69 = .ok (.aload_n 3, 1) := by decide +kernel
theorem dX3_about_70 : decode cX3_about 70 = .ok (.invokevirtual 151, 3) := by decide +kernel
theorem dX3_about_73 : decode cX3_about 73 = .ok (.ireturn, 1) := by decide +kernel
theorem dX3_about_74 : decode cX3_about 74 = .ok (.new 134, 3) := by decide +kernel
theorem dX3_about_77 : decode cX3_about 77 = .ok (.dup, 1) := by decide +kernel
theorem dX3_about_78 : decode cX3_about 78 = .ok (.ldc 154, 2) := by decide +kernel
theorem dX3_about_80 : decode cX3_about 80 = .ok (.invokespecial 138, 3) := by decide +kernel
theorem dX3_about_83 : decode cX3_about 83 = .ok (.athrow, 1) := by decide +kernel
theorem dX3_told_0 : decode cX3_told 0 = .ok (.aload_n 0, 1) := by decide +kernel
theorem dX3_told_1 : decode cX3_told 1 = .ok (.iload_n 1, 1) := by decide +kernel
theorem dX3_told_2 : decode cX3_told 2 = .ok (.invokevirtual 156, 3) := by decide +kernel
theorem dX3_told_5 : decode cX3_told 5 = .ok (.iload_n 2, 1) := by decide +kernel
theorem dX3_told_6 : decode cX3_told 6 = .ok (.tableswitch 84 0 4 #[34, 43, 52, 58, 67], 34) := by decide +kernel
theorem dX3_told_40 : decode cX3_told 40 = .ok (.aload_n 0, 1) := by decide +kernel
theorem dX3_told_41 : decode cX3_told 41 = .ok (.getfield 10, 3) := by decide +kernel
theorem dX3_told_44 : decode cX3_told 44 = .ok (.iload_n 1, 1) := by decide +kernel
theorem dX3_told_45 : decode cX3_told 45 = .ok (.invokevirtual 69, 3) := by decide +kernel
theorem dX3_told_48 : decode cX3_told 48 = .ok (.ireturn, 1) := by decide +kernel
theorem dX3_told_49 : decode cX3_told 49 = .ok (.aload_n 0, 1) := by decide +kernel
theorem dX3_told_50 : decode cX3_told 50 = .ok (.getfield 10, 3) := by decide +kernel
theorem dX3_told_53 : decode cX3_told 53 = .ok (.iload_n 1, 1) := by decide +kernel
theorem dX3_told_54 : decode cX3_told 54 = .ok (.invokevirtual 159, 3) := by decide +kernel
theorem dX3_told_57 : decode cX3_told 57 = .ok (.ireturn, 1) := by decide +kernel
theorem dX3_told_58 : decode cX3_told 58 = .ok (.aload_n 0, 1) := by decide +kernel
theorem dX3_told_59 : decode cX3_told 59 = .ok (.iload_n 1, 1) := by decide +kernel
theorem dX3_told_60 : decode cX3_told 60 = .ok (.invokevirtual 162, 3) := by decide +kernel
theorem dX3_told_63 : decode cX3_told 63 = .ok (.ireturn, 1) := by decide +kernel
theorem dX3_told_64 : decode cX3_told 64 = .ok (.aload_n 0, 1) := by decide +kernel
theorem dX3_told_65 : decode cX3_told 65 = .ok (.getfield 10, 3) := by decide +kernel
theorem dX3_told_68 : decode cX3_told 68 = .ok (.iload_n 1, 1) := by decide +kernel
theorem dX3_told_69 : decode cX3_told 69 = .ok (.invokevirtual 165, 3) := by decide +kernel
theorem dX3_told_72 : decode cX3_told 72 = .ok (.ireturn, 1) := by decide +kernel
theorem dX3_told_73 : decode cX3_told 73 = .ok (.aload_n 0, 1) := by decide +kernel
theorem dX3_told_74 : decode cX3_told 74 = .ok (.getfield 10, 3) := by decide +kernel
theorem dX3_told_77 : decode cX3_told 77 = .ok (.iload_n 1, 1) := by decide +kernel
theorem dX3_told_78 : decode cX3_told 78 = .ok (.invokevirtual 168, 3) := by decide +kernel
theorem dX3_told_81 : decode cX3_told 81 = .ok (.ifCond .eq 7, 3) := by decide +kernel
theorem dX3_told_84 : decode cX3_told 84 = .ok (.iconst 1, 1) := by decide +kernel
theorem dX3_told_85 : decode cX3_told 85 = .ok (.goto 4, 3) := by decide +kernel
theorem dX3_told_88 : decode cX3_told 88 = .ok (.iconst 0, 1) := by decide +kernel
theorem dX3_told_89 : decode cX3_told 89 = .ok (.ireturn, 1) := by decide +kernel
theorem dX3_told_90 : decode cX3_told 90 = .ok (.new 134, 3) := by decide +kernel
theorem dX3_told_93 : decode cX3_told 93 = .ok (.dup, 1) := by decide +kernel
theorem dX3_told_94 : decode cX3_told 94 = .ok (.ldc 171, 2) := by decide +kernel
theorem dX3_told_96 : decode cX3_told 96 = .ok (.invokespecial 138, 3) := by decide +kernel
theorem dX3_told_99 : decode cX3_told 99 = .ok (.athrow, 1) := by decide +kernel
theorem dX3_count_0 : decode cX3_count 0 = .ok (.iload_n 1, 1) := by decide +kernel
theorem dX3_count_1 : decode cX3_count 1 = .ok (.tableswitch 96 0 4 #[35, 43, 59, 75, 91], 35) := by decide +kernel
theorem dX3_count_36 : decode cX3_count 36 = .ok (.aload_n 0, 1) := by decide +kernel
theorem dX3_count_37 : decode cX3_count 37 = .ok (.getfield 10, 3) := by decide +kernel
theorem dX3_count_40 : decode cX3_count 40 = .ok (.invokevirtual 46, 3) := by decide +kernel
theorem dX3_count_43 : decode cX3_count 43 = .ok (.ireturn, 1) := by decide +kernel
theorem dX3_count_44 : decode cX3_count 44 = .ok (.aload_n 0, 1) := by decide +kernel
theorem dX3_count_45 : decode cX3_count 45 = .ok (.getfield 21, 3) := by decide +kernel
theorem dX3_count_48 : decode cX3_count 48 = .ok (.invokevirtual 93, 3) := by decide +kernel
theorem dX3_count_51 : decode cX3_count 51 = .ok (.aload_n 0, 1) := by decide +kernel
theorem dX3_count_52 : decode cX3_count 52 = .ok (.getfield 25, 3) := by decide +kernel
theorem dX3_count_55 : decode cX3_count 55 = .ok (.invokevirtual 93, 3) := by decide +kernel
theorem dX3_count_58 : decode cX3_count 58 = .ok (.iadd, 1) := by decide +kernel
theorem dX3_count_59 : decode cX3_count 59 = .ok (.ireturn, 1) := by decide +kernel
theorem dX3_count_60 : decode cX3_count 60 = .ok (.aload_n 0, 1) := by decide +kernel
theorem dX3_count_61 : decode cX3_count 61 = .ok (.getfield 21, 3) := by decide +kernel
theorem dX3_count_64 : decode cX3_count 64 = .ok (.invokevirtual 173, 3) := by decide +kernel
theorem dX3_count_67 : decode cX3_count 67 = .ok (.aload_n 0, 1) := by decide +kernel
theorem dX3_count_68 : decode cX3_count 68 = .ok (.getfield 25, 3) := by decide +kernel
theorem dX3_count_71 : decode cX3_count 71 = .ok (.invokevirtual 173, 3) := by decide +kernel
theorem dX3_count_74 : decode cX3_count 74 = .ok (.iadd, 1) := by decide +kernel
theorem dX3_count_75 : decode cX3_count 75 = .ok (.ireturn, 1) := by decide +kernel
theorem dX3_count_76 : decode cX3_count 76 = .ok (.aload_n 0, 1) := by decide +kernel
theorem dX3_count_77 : decode cX3_count 77 = .ok (.getfield 21, 3) := by decide +kernel
theorem dX3_count_80 : decode cX3_count 80 = .ok (.invokevirtual 148, 3) := by decide +kernel
theorem dX3_count_83 : decode cX3_count 83 = .ok (.aload_n 0, 1) := by decide +kernel
theorem dX3_count_84 : decode cX3_count 84 = .ok (.getfield 25, 3) := by decide +kernel
theorem dX3_count_87 : decode cX3_count 87 = .ok (.invokevirtual 148, 3) := by decide +kernel
theorem dX3_count_90 : decode cX3_count 90 = .ok (.iadd, 1) := by decide +kernel
theorem dX3_count_91 : decode cX3_count 91 = .ok (.ireturn, 1) := by decide +kernel
theorem dX3_count_92 : decode cX3_count 92 = .ok (.aload_n 0, 1) := by decide +kernel
theorem dX3_count_93 : decode cX3_count 93 = .ok (.getfield 89, 3) := by decide +kernel
theorem dX3_count_96 : decode cX3_count 96 = .ok (.ireturn, 1) := by decide +kernel
theorem dX3_count_97 : decode cX3_count 97 = .ok (.new 134, 3) := by decide +kernel
theorem dX3_count_100 : decode cX3_count 100 = .ok (.dup, 1) := by decide +kernel
theorem dX3_count_101 : decode cX3_count 101 = .ok (.ldc 176, 2) := by decide +kernel
theorem dX3_count_103 : decode cX3_count 103 = .ok (.invokespecial 138, 3) := by decide +kernel
theorem dX3_count_106 : decode cX3_count 106 = .ok (.athrow, 1) := by decide +kernel
theorem dX3_next_0 : decode cX3_next 0 = .ok (.aload_n 0, 1) := by decide +kernel
theorem dX3_next_1 : decode cX3_next 1 = .ok (.iload_n 1, 1) := by decide +kernel
theorem dX3_next_2 : decode cX3_next 2 = .ok (.invokevirtual 31, 3) := by decide +kernel
theorem dX3_next_5 : decode cX3_next 5 = .ok (.astore_n 3, 1) := by decide +kernel
theorem dX3_next_6 : decode cX3_next 6 = .ok (.iload_n 2, 1) := by decide +kernel
theorem dX3_next_7 : decode cX3_next 7 = .ok (.ifCond .lt 11, 3) := by decide +kernel
theorem dX3_next_10 : decode cX3_next 10 = .ok (.iload_n 2, 1) := by decide +kernel
theorem dX3_next_11 : decode cX3_next 11 = .ok (.aload_n 3, 1) := by decide +kernel
theorem dX3_next_12 : decode cX3_next 12 = .ok (.invokevirtual 93, 3) := by decide +kernel
theorem dX3_next_15 : decode cX3_next 15 = .ok (.if_icmp .lt 13, 3) := by decide +kernel
theorem dX3_next_18 : decode cX3_next 18 = .ok (.new 134, 3) := by decide +kernel
theorem dX3_next_21 : decode cX3_next 21 = .ok (.dup, 1) := by decide +kernel
theorem dX3_next_22 : decode cX3_next 22 = .ok (.ldc 178, 2) := by decide +kernel
theorem dX3_next_24 : decode cX3_next 24 = .ok (.invokespecial 138, 3) := by decide +kernel
theorem dX3_next_27 : decode cX3_next 27 = .ok (.athrow, 1) := by decide +kernel
theorem dX3_next_28 : decode cX3_next 28 = .ok (.aload_n 0, 1) := by decide +kernel
theorem dX3_next_29 : decode cX3_next 29 = .ok (.getfield 28, 3) := by decide +kernel
theorem dX3_next_32 : decode cX3_next 32 = .ok (.aload_n 3, 1) := by decide +kernel
theorem dX3_next_33 : decode cX3_next 33 = .ok (.invokevirtual 180, 3) := by decide +kernel
theorem dX3_next_36 : decode cX3_next 36 = .ok (.aload_n 0, 1) := by decide +kernel
theorem dX3_next_37 : decode cX3_next 37 = .ok (.getfield 28, 3) := by decide +kernel
theorem dX3_next_40 : decode cX3_next 40 = .ok (.iload_n 2, 1) := by decide +kernel
theorem dX3_next_41 : decode cX3_next 41 = .ok (.invokevirtual 184, 3) := by decide +kernel
theorem dX3_next_44 : decode cX3_next 44 = .ok (.aload_n 0, 1) := by decide +kernel
theorem dX3_next_45 : decode cX3_next 45 = .ok (.getfield 28, 3) := by decide +kernel
theorem dX3_next_48 : decode cX3_next 48 = .ok (.invokevirtual 98, 3) := by decide +kernel
theorem dX3_next_51 : decode cX3_next 51 = .ok (.ireturn, 1) := by decide +kernel
theorem dX3_moves_0 : decode cX3_moves 0 = .ok (.aload_n 0, 1) := by decide +kernel
theorem dX3_moves_1 : decode cX3_moves 1 = .ok (.iload_n 1, 1) := by decide +kernel
theorem dX3_moves_2 : decode cX3_moves 2 = .ok (.invokevirtual 31, 3) := by decide +kernel
theorem dX3_moves_5 : decode cX3_moves 5 = .ok (.astore_n 3, 1) := by decide +kernel
theorem dX3_moves_6 : decode cX3_moves 6 = .ok (.iload_n 2, 1) := by decide +kernel
theorem dX3_moves_7 : decode cX3_moves 7 = .ok (.ifCond .lt 11, 3) := by decide +kernel
theorem dX3_moves_10 : decode cX3_moves 10 = .ok (.iload_n 2, 1) := by decide +kernel
theorem dX3_moves_11 : decode cX3_moves 11 = .ok (.aload_n 3, 1) := by decide +kernel
theorem dX3_moves_12 : decode cX3_moves 12 = .ok (.invokevirtual 93, 3) := by decide +kernel
theorem dX3_moves_15 : decode cX3_moves 15 = .ok (.if_icmp .le 13, 3) := by decide +kernel
theorem dX3_moves_18 : decode cX3_moves 18 = .ok (.new 39, 3) := by decide +kernel
theorem dX3_moves_21 : decode cX3_moves 21 = .ok (.dup, 1) := by decide +kernel
theorem dX3_moves_22 : decode cX3_moves 22 = .ok (.ldc 187, 2) := by decide +kernel
theorem dX3_moves_24 : decode cX3_moves 24 = .ok (.invokespecial 43, 3) := by decide +kernel
theorem dX3_moves_27 : decode cX3_moves 27 = .ok (.athrow, 1) := by decide +kernel
theorem dX3_moves_28 : decode cX3_moves 28 = .ok (.aload_n 0, 1) := by decide +kernel
theorem dX3_moves_29 : decode cX3_moves 29 = .ok (.getfield 28, 3) := by decide +kernel
theorem dX3_moves_32 : decode cX3_moves 32 = .ok (.aload_n 3, 1) := by decide +kernel
theorem dX3_moves_33 : decode cX3_moves 33 = .ok (.invokevirtual 180, 3) := by decide +kernel
theorem dX3_moves_36 : decode cX3_moves 36 = .ok (.aload_n 0, 1) := by decide +kernel
theorem dX3_moves_37 : decode cX3_moves 37 = .ok (.getfield 28, 3) := by decide +kernel
theorem dX3_moves_40 : decode cX3_moves 40 = .ok (.iload_n 2, 1) := by decide +kernel
theorem dX3_moves_41 : decode cX3_moves 41 = .ok (.invokevirtual 184, 3) := by decide +kernel
theorem dX3_moves_44 : decode cX3_moves 44 = .ok (.aload_n 0, 1) := by decide +kernel
theorem dX3_moves_45 : decode cX3_moves 45 = .ok (.getfield 28, 3) := by decide +kernel
theorem dX3_moves_48 : decode cX3_moves 48 = .ok (.invokevirtual 173, 3) := by decide +kernel
theorem dX3_moves_51 : decode cX3_moves 51 = .ok (.ireturn, 1) := by decide +kernel
theorem dX3_highest_0 : decode cX3_highest 0 = .ok (.aload_n 0, 1) := by decide +kernel
theorem dX3_highest_1 : decode cX3_highest 1 = .ok (.iload_n 1, 1) := by decide +kernel
theorem dX3_highest_2 : decode cX3_highest 2 = .ok (.invokevirtual 31, 3) := by decide +kernel
theorem dX3_highest_5 : decode cX3_highest 5 = .ok (.invokevirtual 101, 3) := by decide +kernel
theorem dX3_highest_8 : decode cX3_highest 8 = .ok (.ireturn, 1) := by decide +kernel
theorem dX3_advise_0 : decode cX3_advise 0 = .ok (.aload_n 0, 1) := by decide +kernel
theorem dX3_advise_1 : decode cX3_advise 1 = .ok (.iload_n 1, 1) := by decide +kernel
theorem dX3_advise_2 : decode cX3_advise 2 = .ok (.invokevirtual 31, 3) := by decide +kernel
theorem dX3_advise_5 : decode cX3_advise 5 = .ok (.astore_n 2, 1) := by decide +kernel
theorem dX3_advise_6 : decode cX3_advise 6 = .ok (.iconst (-1), 1) := by decide +kernel
theorem dX3_advise_7 : decode cX3_advise 7 = .ok (.istore_n 3, 1) := by decide +kernel
theorem dX3_advise_8 : decode cX3_advise 8 = .ok (.iconst 0, 1) := by decide +kernel
theorem dX3_advise_9 : decode cX3_advise 9 = .ok (.istore 4, 2) := by decide +kernel
theorem dX3_advise_11 : decode cX3_advise 11 = .ok (.iconst 0, 1) := by decide +kernel
theorem dX3_advise_12 : decode cX3_advise 12 = .ok (.istore 5, 2) := by decide +kernel
theorem dX3_advise_14 : decode cX3_advise 14 = .ok (.iload 5, 2) := by decide +kernel
theorem dX3_advise_16 : decode cX3_advise 16 = .ok (.aload_n 0, 1) := by decide +kernel
theorem dX3_advise_17 : decode cX3_advise 17 = .ok (.getfield 10, 3) := by decide +kernel
theorem dX3_advise_20 : decode cX3_advise 20 = .ok (.invokevirtual 46, 3) := by decide +kernel
theorem dX3_advise_23 : decode cX3_advise 23 = .ok (.if_icmp .ge 82, 3) := by decide +kernel
theorem dX3_advise_26 : decode cX3_advise 26 = .ok (.aload_n 0, 1) := by decide +kernel
theorem dX3_advise_27 : decode cX3_advise 27 = .ok (.getfield 10, 3) := by decide +kernel
theorem dX3_advise_30 : decode cX3_advise 30 = .ok (.iload 5, 2) := by decide +kernel
theorem dX3_advise_32 : decode cX3_advise 32 = .ok (.invokevirtual 159, 3) := by decide +kernel
theorem dX3_advise_35 : decode cX3_advise 35 = .ok (.iload_n 1, 1) := by decide +kernel
theorem dX3_advise_36 : decode cX3_advise 36 = .ok (.if_icmp .ne 63, 3) := by decide +kernel
theorem dX3_advise_39 : decode cX3_advise 39 = .ok (.aload_n 0, 1) := by decide +kernel
theorem dX3_advise_40 : decode cX3_advise 40 = .ok (.getfield 28, 3) := by decide +kernel
theorem dX3_advise_43 : decode cX3_advise 43 = .ok (.aload_n 2, 1) := by decide +kernel
theorem dX3_advise_44 : decode cX3_advise 44 = .ok (.invokevirtual 180, 3) := by decide +kernel
theorem dX3_advise_47 : decode cX3_advise 47 = .ok (.aload_n 0, 1) := by decide +kernel
theorem dX3_advise_48 : decode cX3_advise 48 = .ok (.getfield 28, 3) := by decide +kernel
theorem dX3_advise_51 : decode cX3_advise 51 = .ok (.iload 5, 2) := by decide +kernel
theorem dX3_advise_53 : decode cX3_advise 53 = .ok (.invokevirtual 75, 3) := by decide +kernel
theorem dX3_advise_56 : decode cX3_advise 56 = .ok (.aload_n 0, 1) := by decide +kernel
theorem dX3_advise_57 : decode cX3_advise 57 = .ok (.getfield 28, 3) := by decide +kernel
theorem dX3_advise_60 : decode cX3_advise 60 = .ok (.aload_n 0, 1) := by decide +kernel
theorem dX3_advise_61 : decode cX3_advise 61 = .ok (.getfield 28, 3) := by decide +kernel
theorem dX3_advise_64 : decode cX3_advise 64 = .ok (.invokevirtual 93, 3) := by decide +kernel
theorem dX3_advise_67 : decode cX3_advise 67 = .ok (.invokevirtual 184, 3) := by decide +kernel
theorem dX3_advise_70 : decode cX3_advise 70 = .ok (.iload_n 3, 1) := by decide +kernel
theorem dX3_advise_71 : decode cX3_advise 71 = .ok (.iconst (-1), 1) := by decide +kernel
theorem dX3_advise_72 : decode cX3_advise 72 = .ok (.if_icmp .eq 15, 3) := by decide +kernel
theorem dX3_advise_75 : decode cX3_advise 75 = .ok (.aload_n 0, 1) := by decide +kernel
theorem dX3_advise_76 : decode cX3_advise 76 = .ok (.getfield 28, 3) := by decide +kernel
theorem dX3_advise_79 : decode cX3_advise 79 = .ok (.invokevirtual 173, 3) := by decide +kernel
theorem dX3_advise_82 : decode cX3_advise 82 = .ok (.iload 4, 2) := by decide +kernel
theorem dX3_advise_84 : decode cX3_advise 84 = .ok (.if_icmp .ge 15, 3) := by decide +kernel
theorem dX3_advise_87 : decode cX3_advise 87 = .ok (.iload 5, 2) := by decide +kernel
theorem dX3_advise_89 : decode cX3_advise 89 = .ok (.istore_n 3, 1) := by decide +kernel
theorem dX3_advise_90 : decode cX3_advise 90 = .ok (.aload_n 0, 1) := by decide +kernel
theorem dX3_advise_91 : decode cX3_advise 91 = .ok (.getfield 28, 3) := by decide +kernel
theorem dX3_advise_94 : decode cX3_advise 94 = .ok (.invokevirtual 173, 3) := by decide +kernel
theorem dX3_advise_97 : decode cX3_advise 97 = .ok (.istore 4, 2) := by decide +kernel
theorem dX3_advise_99 : decode cX3_advise 99 = .ok (.iinc 5 1, 3) := by decide +kernel
theorem dX3_advise_102 : decode cX3_advise 102 = .ok (.goto (-88), 3) := by decide +kernel
theorem dX3_advise_105 : decode cX3_advise 105 = .ok (.iload_n 3, 1) := by decide +kernel
theorem dX3_advise_106 : decode cX3_advise 106 = .ok (.ireturn, 1) := by decide +kernel
theorem dX3_mean_0 : decode cX3_mean 0 = .ok (.aload_n 0, 1) := by decide +kernel
theorem dX3_mean_1 : decode cX3_mean 1 = .ok (.getfield 21, 3) := by decide +kernel
theorem dX3_mean_4 : decode cX3_mean 4 = .ok (.invokevirtual 93, 3) := by decide +kernel
theorem dX3_mean_7 : decode cX3_mean 7 = .ok (.aload_n 0, 1) := by decide +kernel
theorem dX3_mean_8 : decode cX3_mean 8 = .ok (.getfield 25, 3) := by decide +kernel
theorem dX3_mean_11 : decode cX3_mean 11 = .ok (.invokevirtual 93, 3) := by decide +kernel
theorem dX3_mean_14 : decode cX3_mean 14 = .ok (.iadd, 1) := by decide +kernel
theorem dX3_mean_15 : decode cX3_mean 15 = .ok (.istore_n 1, 1) := by decide +kernel
theorem dX3_mean_16 : decode cX3_mean 16 = .ok (.iload_n 1, 1) := by decide +kernel
theorem dX3_mean_17 : decode cX3_mean 17 = .ok (.ifCond .ne 5, 3) := by decide +kernel
theorem dX3_mean_20 : decode cX3_mean 20 = .ok (.dconst 0, 1) := by decide +kernel
theorem dX3_mean_21 : decode cX3_mean 21 = .ok (.dreturn, 1) := by decide +kernel
theorem dX3_mean_22 : decode cX3_mean 22 = .ok (.aload_n 0, 1) := by decide +kernel
theorem dX3_mean_23 : decode cX3_mean 23 = .ok (.getfield 21, 3) := by decide +kernel
theorem dX3_mean_26 : decode cX3_mean 26 = .ok (.invokevirtual 189, 3) := by decide +kernel
theorem dX3_mean_29 : decode cX3_mean 29 = .ok (.aload_n 0, 1) := by decide +kernel
theorem dX3_mean_30 : decode cX3_mean 30 = .ok (.getfield 25, 3) := by decide +kernel
theorem dX3_mean_33 : decode cX3_mean 33 = .ok (.invokevirtual 189, 3) := by decide +kernel
theorem dX3_mean_36 : decode cX3_mean 36 = .ok (.iadd, 1) := by decide +kernel
theorem dX3_mean_37 : decode cX3_mean 37 = .ok (.i2d, 1) := by decide +kernel
theorem dX3_mean_38 : decode cX3_mean 38 = .ok (.iload_n 1, 1) := by decide +kernel
theorem dX3_mean_39 : decode cX3_mean 39 = .ok (.i2d, 1) := by decide +kernel
theorem dX3_mean_40 : decode cX3_mean 40 = .ok (.ddiv, 1) := by decide +kernel
theorem dX3_mean_41 : decode cX3_mean 41 = .ok (.dreturn, 1) := by decide +kernel
theorem dX3_digest_0 : decode cX3_digest 0 = .ok (.ldc2_w 192, 3) := by decide +kernel
theorem dX3_digest_3 : decode cX3_digest 3 = .ok (.lstore_n 1, 1) := by decide +kernel
theorem dX3_digest_4 : decode cX3_digest 4 = .ok (.iconst 0, 1) := by decide +kernel
theorem dX3_digest_5 : decode cX3_digest 5 = .ok (.istore_n 3, 1) := by decide +kernel
theorem dX3_digest_6 : decode cX3_digest 6 = .ok (.iload_n 3, 1) := by decide +kernel
theorem dX3_digest_7 : decode cX3_digest 7 = .ok (.iconst 5, 1) := by decide +kernel
theorem dX3_digest_8 : decode cX3_digest 8 = .ok (.if_icmp .ge 19, 3) := by decide +kernel
theorem dX3_digest_11 : decode cX3_digest 11 = .ok (.lload_n 1, 1) := by decide +kernel
theorem dX3_digest_12 : decode cX3_digest 12 = .ok (.aload_n 0, 1) := by decide +kernel
theorem dX3_digest_13 : decode cX3_digest 13 = .ok (.iload_n 3, 1) := by decide +kernel
theorem dX3_digest_14 : decode cX3_digest 14 = .ok (.invokevirtual 194, 3) := by decide +kernel
theorem dX3_digest_17 : decode cX3_digest 17 = .ok (.invokestatic 197, 3) := by decide +kernel
theorem dX3_digest_20 : decode cX3_digest 20 = .ok (.lstore_n 1, 1) := by decide +kernel
theorem dX3_digest_21 : decode cX3_digest 21 = .ok (.iinc 3 1, 3) := by decide +kernel
theorem dX3_digest_24 : decode cX3_digest 24 = .ok (.goto (-18), 3) := by decide +kernel
theorem dX3_digest_27 : decode cX3_digest 27 = .ok (.iconst 0, 1) := by decide +kernel
theorem dX3_digest_28 : decode cX3_digest 28 = .ok (.istore_n 3, 1) := by decide +kernel
theorem dX3_digest_29 : decode cX3_digest 29 = .ok (.iload_n 3, 1) := by decide +kernel
theorem dX3_digest_30 : decode cX3_digest 30 = .ok (.iconst 2, 1) := by decide +kernel
theorem dX3_digest_31 : decode cX3_digest 31 = .ok (.if_icmp .ge 16, 3) := by decide +kernel
theorem dX3_digest_34 : decode cX3_digest 34 = .ok (.aload_n 0, 1) := by decide +kernel
theorem dX3_digest_35 : decode cX3_digest 35 = .ok (.lload_n 1, 1) := by decide +kernel
theorem dX3_digest_36 : decode cX3_digest 36 = .ok (.iload_n 3, 1) := by decide +kernel
theorem dX3_digest_37 : decode cX3_digest 37 = .ok (.invokevirtual 201, 3) := by decide +kernel
theorem dX3_digest_40 : decode cX3_digest 40 = .ok (.lstore_n 1, 1) := by decide +kernel
theorem dX3_digest_41 : decode cX3_digest 41 = .ok (.iinc 3 1, 3) := by decide +kernel
theorem dX3_digest_44 : decode cX3_digest 44 = .ok (.goto (-15), 3) := by decide +kernel
theorem dX3_digest_47 : decode cX3_digest 47 = .ok (.iconst 0, 1) := by decide +kernel
theorem dX3_digest_48 : decode cX3_digest 48 = .ok (.istore_n 3, 1) := by decide +kernel
theorem dX3_digest_49 : decode cX3_digest 49 = .ok (.iload_n 3, 1) := by decide +kernel
theorem dX3_digest_50 : decode cX3_digest 50 = .ok (.aload_n 0, 1) := by decide +kernel
theorem dX3_digest_51 : decode cX3_digest 51 = .ok (.getfield 10, 3) := by decide +kernel
theorem dX3_digest_54 : decode cX3_digest 54 = .ok (.invokevirtual 46, 3) := by decide +kernel
theorem dX3_digest_57 : decode cX3_digest 57 = .ok (.if_icmp .ge 36, 3) := by decide +kernel
theorem dX3_digest_60 : decode cX3_digest 60 = .ok (.iconst 0, 1) := by decide +kernel
theorem dX3_digest_61 : decode cX3_digest 61 = .ok (.istore 4, 2) := by decide +kernel
theorem dX3_digest_63 : decode cX3_digest 63 = .ok (.iload 4, 2) := by decide +kernel
theorem dX3_digest_65 : decode cX3_digest 65 = .ok (.iconst 5, 1) := by decide +kernel
theorem dX3_digest_66 : decode cX3_digest 66 = .ok (.if_icmp .ge 21, 3) := by decide +kernel
theorem dX3_digest_69 : decode cX3_digest 69 = .ok (.lload_n 1, 1) := by decide +kernel
theorem dX3_digest_70 : decode cX3_digest 70 = .ok (.aload_n 0, 1) := by decide +kernel
theorem dX3_digest_71 : decode cX3_digest 71 = .ok (.iload_n 3, 1) := by decide +kernel
theorem dX3_digest_72 : decode cX3_digest 72 = .ok (.iload 4, 2) := by decide +kernel
theorem dX3_digest_74 : decode cX3_digest 74 = .ok (.invokevirtual 204, 3) := by decide +kernel
theorem dX3_digest_77 : decode cX3_digest 77 = .ok (.invokestatic 197, 3) := by decide +kernel
theorem dX3_digest_80 : decode cX3_digest 80 = .ok (.lstore_n 1, 1) := by decide +kernel
theorem dX3_digest_81 : decode cX3_digest 81 = .ok (.iinc 4 1, 3) := by decide +kernel
theorem dX3_digest_84 : decode cX3_digest 84 = .ok (.goto (-21), 3) := by decide +kernel
theorem dX3_digest_87 : decode cX3_digest 87 = .ok (.iinc 3 1, 3) := by decide +kernel
theorem dX3_digest_90 : decode cX3_digest 90 = .ok (.goto (-41), 3) := by decide +kernel
theorem dX3_digest_93 : decode cX3_digest 93 = .ok (.lload_n 1, 1) := by decide +kernel
theorem dX3_digest_94 : decode cX3_digest 94 = .ok (.lreturn, 1) := by decide +kernel
theorem dX3_joinedHearth_0 : decode cX3_joinedHearth 0 = .ok (.lload_n 1, 1) := by decide +kernel
theorem dX3_joinedHearth_1 : decode cX3_joinedHearth 1 = .ok (.lstore 4, 2) := by decide +kernel
theorem dX3_joinedHearth_3 : decode cX3_joinedHearth 3 = .ok (.iconst 0, 1) := by decide +kernel
theorem dX3_joinedHearth_4 : decode cX3_joinedHearth 4 = .ok (.istore 6, 2) := by decide +kernel
theorem dX3_joinedHearth_6 : decode cX3_joinedHearth 6 = .ok (.iload 6, 2) := by decide +kernel
theorem dX3_joinedHearth_8 : decode cX3_joinedHearth 8 = .ok (.bipush 6, 2) := by decide +kernel
theorem dX3_joinedHearth_10 : decode cX3_joinedHearth 10 = .ok (.if_icmp .ge 23, 3) := by decide +kernel
theorem dX3_joinedHearth_13 : decode cX3_joinedHearth 13 = .ok (.lload 4, 2) := by decide +kernel
theorem dX3_joinedHearth_15 : decode cX3_joinedHearth 15 = .ok (.aload_n 0, 1) := by decide +kernel
theorem dX3_joinedHearth_16 : decode cX3_joinedHearth 16 = .ok (.iload_n 3, 1) := by decide +kernel
theorem dX3_joinedHearth_17 : decode cX3_joinedHearth 17 = .ok (.iload 6, 2) := by decide +kernel
theorem dX3_joinedHearth_19 : decode cX3_joinedHearth 19 = .ok (.invokevirtual 207, 3) := by decide +kernel
theorem dX3_joinedHearth_22 : decode cX3_joinedHearth 22 = .ok (.invokestatic 197, 3) := by decide +kernel
theorem dX3_joinedHearth_25 : decode cX3_joinedHearth 25 = .ok (.lstore 4, 2) := by decide +kernel
theorem dX3_joinedHearth_27 : decode cX3_joinedHearth 27 = .ok (.iinc 6 1, 3) := by decide +kernel
theorem dX3_joinedHearth_30 : decode cX3_joinedHearth 30 = .ok (.goto (-24), 3) := by decide +kernel
theorem dX3_joinedHearth_33 : decode cX3_joinedHearth 33 = .ok (.aload_n 0, 1) := by decide +kernel
theorem dX3_joinedHearth_34 : decode cX3_joinedHearth 34 = .ok (.iload_n 3, 1) := by decide +kernel
theorem dX3_joinedHearth_35 : decode cX3_joinedHearth 35 = .ok (.invokevirtual 31, 3) := by decide +kernel
theorem dX3_joinedHearth_38 : decode cX3_joinedHearth 38 = .ok (.astore 6, 2) := by decide +kernel
theorem dX3_joinedHearth_40 : decode cX3_joinedHearth 40 = .ok (.iconst 0, 1) := by decide +kernel
theorem dX3_joinedHearth_41 : decode cX3_joinedHearth 41 = .ok (.istore 7, 2) := by decide +kernel
theorem dX3_joinedHearth_43 : decode cX3_joinedHearth 43 = .ok (.iload 7, 2) := by decide +kernel
theorem dX3_joinedHearth_45 : decode cX3_joinedHearth 45 = .ok (.bipush 11, 2) := by decide +kernel
theorem dX3_joinedHearth_47 : decode cX3_joinedHearth 47 = .ok (.if_icmp .ge 59, 3) := by decide +kernel
theorem dX3_joinedHearth_50 : decode cX3_joinedHearth 50 = .ok (.aload 6, 2) := by decide +kernel
theorem dX3_joinedHearth_52 : decode cX3_joinedHearth 52 = .ok (.iload 7, 2) := by decide +kernel
theorem dX3_joinedHearth_54 : decode cX3_joinedHearth 54 = .ok (.invokevirtual 131, 3) := by decide +kernel
theorem dX3_joinedHearth_57 : decode cX3_joinedHearth 57 = .ok (.istore 8, 2) := by decide +kernel
theorem dX3_joinedHearth_59 : decode cX3_joinedHearth 59 = .ok (.lload 4, 2) := by decide +kernel
theorem dX3_joinedHearth_61 : decode cX3_joinedHearth 61 = .ok (.iload 8, 2) := by decide +kernel
theorem dX3_joinedHearth_63 : decode cX3_joinedHearth 63 = .ok (.invokestatic 197, 3) := by decide +kernel
theorem dX3_joinedHearth_66 : decode cX3_joinedHearth 66 = .ok (.lstore 4, 2) := by decide +kernel
theorem dX3_joinedHearth_68 : decode cX3_joinedHearth 68 = .ok (.iconst 0, 1) := by decide +kernel
theorem dX3_joinedHearth_69 : decode cX3_joinedHearth 69 = .ok (.istore 9, 2) := by decide +kernel
theorem dX3_joinedHearth_71 : decode cX3_joinedHearth 71 = .ok (.iload 9, 2) := by decide +kernel
theorem dX3_joinedHearth_73 : decode cX3_joinedHearth 73 = .ok (.iload 8, 2) := by decide +kernel
theorem dX3_joinedHearth_75 : decode cX3_joinedHearth 75 = .ok (.if_icmp .ge 25, 3) := by decide +kernel
theorem dX3_joinedHearth_78 : decode cX3_joinedHearth 78 = .ok (.lload 4, 2) := by decide +kernel
theorem dX3_joinedHearth_80 : decode cX3_joinedHearth 80 = .ok (.aload 6, 2) := by decide +kernel
theorem dX3_joinedHearth_82 : decode cX3_joinedHearth 82 = .ok (.iload 7, 2) := by decide +kernel
theorem dX3_joinedHearth_84 : decode cX3_joinedHearth 84 = .ok (.iload 9, 2) := by decide +kernel
theorem dX3_joinedHearth_86 : decode cX3_joinedHearth 86 = .ok (.invokevirtual 139, 3) := by decide +kernel
theorem dX3_joinedHearth_89 : decode cX3_joinedHearth 89 = .ok (.invokestatic 197, 3) := by decide +kernel
theorem dX3_joinedHearth_92 : decode cX3_joinedHearth 92 = .ok (.lstore 4, 2) := by decide +kernel
theorem dX3_joinedHearth_94 : decode cX3_joinedHearth 94 = .ok (.iinc 9 1, 3) := by decide +kernel
theorem dX3_joinedHearth_97 : decode cX3_joinedHearth 97 = .ok (.goto (-26), 3) := by decide +kernel
theorem dX3_joinedHearth_100 : decode cX3_joinedHearth 100 = .ok (.iinc 7 1, 3) := by decide +kernel
theorem dX3_joinedHearth_103 : decode cX3_joinedHearth 103 = .ok (.goto (-60), 3) := by decide +kernel
theorem dX3_joinedHearth_106 : decode cX3_joinedHearth 106 = .ok (.lload 4, 2) := by decide +kernel
theorem dX3_joinedHearth_108 : decode cX3_joinedHearth 108 = .ok (.lreturn, 1) := by decide +kernel
theorem dX3_joined_0 : decode cX3_joined 0 = .ok (.lload_n 0, 1) := by decide +kernel
theorem dX3_joined_1 : decode cX3_joined 1 = .ok (.ldc2_w 210, 3) := by decide +kernel
theorem dX3_joined_4 : decode cX3_joined 4 = .ok (.lmul, 1) := by decide +kernel
theorem dX3_joined_5 : decode cX3_joined 5 = .ok (.iload_n 2, 1) := by decide +kernel
theorem dX3_joined_6 : decode cX3_joined 6 = .ok (.i2l, 1) := by decide +kernel
theorem dX3_joined_7 : decode cX3_joined 7 = .ok (.ladd, 1) := by decide +kernel
theorem dX3_joined_8 : decode cX3_joined 8 = .ok (.lreturn, 1) := by decide +kernel
theorem dX3_bucketWith_0 : decode cX3_bucketWith 0 = .ok (.aload_n 0, 1) := by decide +kernel
theorem dX3_bucketWith_1 : decode cX3_bucketWith 1 = .ok (.getfield 10, 3) := by decide +kernel
theorem dX3_bucketWith_4 : decode cX3_bucketWith 4 = .ok (.iload_n 1, 1) := by decide +kernel
theorem dX3_bucketWith_5 : decode cX3_bucketWith 5 = .ok (.invokevirtual 159, 3) := by decide +kernel
theorem dX3_bucketWith_8 : decode cX3_bucketWith 8 = .ok (.istore_n 2, 1) := by decide +kernel
theorem dX3_bucketWith_9 : decode cX3_bucketWith 9 = .ok (.iload_n 2, 1) := by decide +kernel
theorem dX3_bucketWith_10 : decode cX3_bucketWith 10 = .ok (.iconst (-1), 1) := by decide +kernel
theorem dX3_bucketWith_11 : decode cX3_bucketWith 11 = .ok (.if_icmp .ne 7, 3) := by decide +kernel
theorem dX3_bucketWith_14 : decode cX3_bucketWith 14 = .ok (.iconst (-1), 1) := by decide +kernel
theorem dX3_bucketWith_15 : decode cX3_bucketWith 15 = .ok (.goto 19, 3) := by decide +kernel
theorem dX3_bucketWith_18 : decode cX3_bucketWith 18 = .ok (.aload_n 0, 1) := by decide +kernel
theorem dX3_bucketWith_19 : decode cX3_bucketWith 19 = .ok (.iload_n 2, 1) := by decide +kernel
theorem dX3_bucketWith_20 : decode cX3_bucketWith 20 = .ok (.invokevirtual 31, 3) := by decide +kernel
theorem dX3_bucketWith_23 : decode cX3_bucketWith 23 = .ok (.aload_n 0, 1) := by decide +kernel
theorem dX3_bucketWith_24 : decode cX3_bucketWith 24 = .ok (.getfield 10, 3) := by decide +kernel
theorem dX3_bucketWith_27 : decode cX3_bucketWith 27 = .ok (.iload_n 1, 1) := by decide +kernel
theorem dX3_bucketWith_28 : decode cX3_bucketWith 28 = .ok (.invokevirtual 69, 3) := by decide +kernel
theorem dX3_bucketWith_31 : decode cX3_bucketWith 31 = .ok (.invokevirtual 82, 3) := by decide +kernel
theorem dX3_bucketWith_34 : decode cX3_bucketWith 34 = .ok (.ireturn, 1) := by decide +kernel
theorem dX3_hearthOf_0 : decode cX3_hearthOf 0 = .ok (.iload_n 1, 1) := by decide +kernel
theorem dX3_hearthOf_1 : decode cX3_hearthOf 1 = .ok (.ifCond .lt 8, 3) := by decide +kernel
theorem dX3_hearthOf_4 : decode cX3_hearthOf 4 = .ok (.iload_n 1, 1) := by decide +kernel
theorem dX3_hearthOf_5 : decode cX3_hearthOf 5 = .ok (.iconst 2, 1) := by decide +kernel
theorem dX3_hearthOf_6 : decode cX3_hearthOf 6 = .ok (.if_icmp .lt 13, 3) := by decide +kernel
theorem dX3_hearthOf_9 : decode cX3_hearthOf 9 = .ok (.new 134, 3) := by decide +kernel
theorem dX3_hearthOf_12 : decode cX3_hearthOf 12 = .ok (.dup, 1) := by decide +kernel
theorem dX3_hearthOf_13 : decode cX3_hearthOf 13 = .ok (.ldc 212, 2) := by decide +kernel
theorem dX3_hearthOf_15 : decode cX3_hearthOf 15 = .ok (.invokespecial 138, 3) := by decide +kernel
theorem dX3_hearthOf_18 : decode cX3_hearthOf 18 = .ok (.athrow, 1) := by decide +kernel
theorem dX3_hearthOf_19 : decode cX3_hearthOf 19 = .ok (.iload_n 1, 1) := by decide +kernel
theorem dX3_hearthOf_20 : decode cX3_hearthOf 20 = .ok (.ifCond .ne 10, 3) := by decide +kernel
theorem dX3_hearthOf_23 : decode cX3_hearthOf 23 = .ok (.aload_n 0, 1) := by decide +kernel
theorem dX3_hearthOf_24 : decode cX3_hearthOf 24 = .ok (.getfield 21, 3) := by decide +kernel
theorem dX3_hearthOf_27 : decode cX3_hearthOf 27 = .ok (.goto 7, 3) := by decide +kernel
theorem dX3_hearthOf_30 : decode cX3_hearthOf 30 = .ok (.aload_n 0, 1) := by decide +kernel
theorem dX3_hearthOf_31 : decode cX3_hearthOf 31 = .ok (.getfield 25, 3) := by decide +kernel
theorem dX3_hearthOf_34 : decode cX3_hearthOf 34 = .ok (.areturn, 1) := by decide +kernel
theorem dX3_homeOfBurning_0 : decode cX3_homeOfBurning 0 = .ok (.aload_n 0, 1) := by decide +kernel
theorem dX3_homeOfBurning_1 : decode cX3_homeOfBurning 1 = .ok (.iload_n 1, 1) := by decide +kernel
theorem dX3_homeOfBurning_2 : decode cX3_homeOfBurning 2 = .ok (.invokevirtual 156, 3) := by decide +kernel
theorem dX3_homeOfBurning_5 : decode cX3_homeOfBurning 5 = .ok (.aload_n 0, 1) := by decide +kernel
theorem dX3_homeOfBurning_6 : decode cX3_homeOfBurning 6 = .ok (.getfield 10, 3) := by decide +kernel
theorem dX3_homeOfBurning_9 : decode cX3_homeOfBurning 9 = .ok (.iload_n 1, 1) := by decide +kernel
theorem dX3_homeOfBurning_10 : decode cX3_homeOfBurning 10 = .ok (.invokevirtual 159, 3) := by decide +kernel
theorem dX3_homeOfBurning_13 : decode cX3_homeOfBurning 13 = .ok (.istore_n 2, 1) := by decide +kernel
theorem dX3_homeOfBurning_14 : decode cX3_homeOfBurning 14 = .ok (.iload_n 2, 1) := by decide +kernel
theorem dX3_homeOfBurning_15 : decode cX3_homeOfBurning 15 = .ok (.iconst (-1), 1) := by decide +kernel
theorem dX3_homeOfBurning_16 : decode cX3_homeOfBurning 16 = .ok (.if_icmp .ne 13, 3) := by decide +kernel
theorem dX3_homeOfBurning_19 : decode cX3_homeOfBurning 19 = .ok (.new 50, 3) := by decide +kernel
theorem dX3_homeOfBurning_22 : decode cX3_homeOfBurning 22 = .ok (.dup, 1) := by decide +kernel
theorem dX3_homeOfBurning_23 : decode cX3_homeOfBurning 23 = .ok (.ldc 214, 2) := by decide +kernel
theorem dX3_homeOfBurning_25 : decode cX3_homeOfBurning 25 = .ok (.invokespecial 54, 3) := by decide +kernel
theorem dX3_homeOfBurning_28 : decode cX3_homeOfBurning 28 = .ok (.athrow, 1) := by decide +kernel
theorem dX3_homeOfBurning_29 : decode cX3_homeOfBurning 29 = .ok (.aload_n 0, 1) := by decide +kernel
theorem dX3_homeOfBurning_30 : decode cX3_homeOfBurning 30 = .ok (.iload_n 2, 1) := by decide +kernel
theorem dX3_homeOfBurning_31 : decode cX3_homeOfBurning 31 = .ok (.invokevirtual 31, 3) := by decide +kernel
theorem dX3_homeOfBurning_34 : decode cX3_homeOfBurning 34 = .ok (.areturn, 1) := by decide +kernel
theorem dX3_refuseUnlit_0 : decode cX3_refuseUnlit 0 = .ok (.aload_n 0, 1) := by decide +kernel
theorem dX3_refuseUnlit_1 : decode cX3_refuseUnlit 1 = .ok (.getfield 10, 3) := by decide +kernel
theorem dX3_refuseUnlit_4 : decode cX3_refuseUnlit 4 = .ok (.iload_n 1, 1) := by decide +kernel
theorem dX3_refuseUnlit_5 : decode cX3_refuseUnlit 5 = .ok (.invokevirtual 216, 3) := by decide +kernel
theorem dX3_refuseUnlit_8 : decode cX3_refuseUnlit 8 = .ok (.ifCond .ne 13, 3) := by decide +kernel
theorem dX3_refuseUnlit_11 : decode cX3_refuseUnlit 11 = .ok (.new 134, 3) := by decide +kernel
theorem dX3_refuseUnlit_14 : decode cX3_refuseUnlit 14 = .ok (.dup, 1) := by decide +kernel
theorem dX3_refuseUnlit_15 : decode cX3_refuseUnlit 15 = .ok (.ldc 219, 2) := by decide +kernel
theorem dX3_refuseUnlit_17 : decode cX3_refuseUnlit 17 = .ok (.invokespecial 138, 3) := by decide +kernel
theorem dX3_refuseUnlit_20 : decode cX3_refuseUnlit 20 = .ok (.athrow, 1) := by decide +kernel
theorem dX3_refuseUnlit_21 : decode cX3_refuseUnlit 21 = .ok (.return_, 1) := by decide +kernel
theorem dX3_refuseBucket_0 : decode cX3_refuseBucket 0 = .ok (.iload_n 0, 1) := by decide +kernel
theorem dX3_refuseBucket_1 : decode cX3_refuseBucket 1 = .ok (.ifCond .lt 9, 3) := by decide +kernel
theorem dX3_refuseBucket_4 : decode cX3_refuseBucket 4 = .ok (.iload_n 0, 1) := by decide +kernel
theorem dX3_refuseBucket_5 : decode cX3_refuseBucket 5 = .ok (.bipush 11, 2) := by decide +kernel
theorem dX3_refuseBucket_7 : decode cX3_refuseBucket 7 = .ok (.if_icmp .lt 13, 3) := by decide +kernel
theorem dX3_refuseBucket_10 : decode cX3_refuseBucket 10 = .ok (.new 134, 3) := by decide +kernel
theorem dX3_refuseBucket_13 : decode cX3_refuseBucket 13 = .ok (.dup, 1) := by decide +kernel
theorem dX3_refuseBucket_14 : decode cX3_refuseBucket 14 = .ok (.ldc 221, 2) := by decide +kernel
theorem dX3_refuseBucket_16 : decode cX3_refuseBucket 16 = .ok (.invokespecial 138, 3) := by decide +kernel
theorem dX3_refuseBucket_19 : decode cX3_refuseBucket 19 = .ok (.athrow, 1) := by decide +kernel
theorem dX3_refuseBucket_20 : decode cX3_refuseBucket 20 = .ok (.return_, 1) := by decide +kernel
theorem dX4_init_0 : decode cX4_init 0 = .ok (.aload_n 0, 1) := by decide +kernel
theorem dX4_init_1 : decode cX4_init 1 = .ok (.invokespecial 1, 3) := by decide +kernel
theorem dX4_init_4 : decode cX4_init 4 = .ok (.aload_n 0, 1) := by decide +kernel
theorem dX4_init_5 : decode cX4_init 5 = .ok (.iconst 2, 1) := by decide +kernel
theorem dX4_init_6 : decode cX4_init 6 = .ok (.newarray .int, 2) := by decide +kernel
theorem dX4_init_8 : decode cX4_init 8 = .ok (.putfield 7, 3) := by decide +kernel
theorem dX4_init_11 : decode cX4_init 11 = .ok (.aload_n 0, 1) := by decide +kernel
theorem dX4_init_12 : decode cX4_init 12 = .ok (.iconst 2, 1) := by decide +kernel
theorem dX4_init_13 : decode cX4_init 13 = .ok (.newarray .int, 2) := by decide +kernel
theorem dX4_init_15 : decode cX4_init 15 = .ok (.putfield 13, 3) := by decide +kernel
theorem dX4_init_18 : decode cX4_init 18 = .ok (.aload_n 0, 1) := by decide +kernel
theorem dX4_init_19 : decode cX4_init 19 = .ok (.iconst 2, 1) := by decide +kernel
theorem dX4_init_20 : decode cX4_init 20 = .ok (.anewarray 16, 3) := by decide +kernel
theorem dX4_init_23 : decode cX4_init 23 = .ok (.dup, 1) := by decide +kernel
theorem dX4_init_24 : decode cX4_init 24 = .ok (.iconst 0, 1) := by decide +kernel
theorem dX4_init_25 : decode cX4_init 25 = .ok (.bipush 11, 2) := by decide +kernel
theorem dX4_init_27 : decode cX4_init 27 = .ok (.iconst 0, 1) := by decide +kernel
theorem dX4_init_28 : decode cX4_init 28 = .ok (.multianewarray 16 2, 4) := by decide +kernel
theorem dX4_init_32 : decode cX4_init 32 = .ok (.aastore, 1) := by decide +kernel
theorem dX4_init_33 : decode cX4_init 33 = .ok (.dup, 1) := by decide +kernel
theorem dX4_init_34 : decode cX4_init 34 = .ok (.iconst 1, 1) := by decide +kernel
theorem dX4_init_35 : decode cX4_init 35 = .ok (.bipush 11, 2) := by decide +kernel
theorem dX4_init_37 : decode cX4_init 37 = .ok (.iconst 0, 1) := by decide +kernel
theorem dX4_init_38 : decode cX4_init 38 = .ok (.multianewarray 16 2, 4) := by decide +kernel
theorem dX4_init_42 : decode cX4_init 42 = .ok (.aastore, 1) := by decide +kernel
theorem dX4_init_43 : decode cX4_init 43 = .ok (.putfield 18, 3) := by decide +kernel
theorem dX4_init_46 : decode cX4_init 46 = .ok (.aload_n 0, 1) := by decide +kernel
theorem dX4_init_47 : decode cX4_init 47 = .ok (.iconst 0, 1) := by decide +kernel
theorem dX4_init_48 : decode cX4_init 48 = .ok (.anewarray 22, 3) := by decide +kernel
theorem dX4_init_51 : decode cX4_init 51 = .ok (.putfield 23, 3) := by decide +kernel
theorem dX4_init_54 : decode cX4_init 54 = .ok (.return_, 1) := by decide +kernel
theorem dX4_with_0 : decode cX4_with 0 = .ok (.aload_n 0, 1) := by decide +kernel
theorem dX4_with_1 : decode cX4_with 1 = .ok (.arraylength, 1) := by decide +kernel
theorem dX4_with_2 : decode cX4_with 2 = .ok (.iconst 1, 1) := by decide +kernel
theorem dX4_with_3 : decode cX4_with 3 = .ok (.iadd, 1) := by decide +kernel
theorem dX4_with_4 : decode cX4_with 4 = .ok (.newarray .int, 2) := by decide +kernel
theorem dX4_with_6 : decode cX4_with 6 = .ok (.astore_n 2, 1) := by decide +kernel
theorem dX4_with_7 : decode cX4_with 7 = .ok (.iconst 0, 1) := by decide +kernel
theorem dX4_with_8 : decode cX4_with 8 = .ok (.istore_n 3, 1) := by decide +kernel
theorem dX4_with_9 : decode cX4_with 9 = .ok (.iload_n 3, 1) := by decide +kernel
theorem dX4_with_10 : decode cX4_with 10 = .ok (.aload_n 0, 1) := by decide +kernel
theorem dX4_with_11 : decode cX4_with 11 = .ok (.arraylength, 1) := by decide +kernel
theorem dX4_with_12 : decode cX4_with 12 = .ok (.if_icmp .ge 15, 3) := by decide +kernel
theorem dX4_with_15 : decode cX4_with 15 = .ok (.aload_n 2, 1) := by decide +kernel
theorem dX4_with_16 : decode cX4_with 16 = .ok (.iload_n 3, 1) := by decide +kernel
theorem dX4_with_17 : decode cX4_with 17 = .ok (.aload_n 0, 1) := by decide +kernel
theorem dX4_with_18 : decode cX4_with 18 = .ok (.iload_n 3, 1) := by decide +kernel
theorem dX4_with_19 : decode cX4_with 19 = .ok (.iaload, 1) := by decide +kernel
theorem dX4_with_20 : decode cX4_with 20 = .ok (.iastore, 1) := by decide +kernel
theorem dX4_with_21 : decode cX4_with 21 = .ok (.iinc 3 1, 3) := by decide +kernel
theorem dX4_with_24 : decode cX4_with 24 = .ok (.goto (-15), 3) := by decide +kernel
theorem dX4_with_27 : decode cX4_with 27 = .ok (.aload_n 2, 1) := by decide +kernel
theorem dX4_with_28 : decode cX4_with 28 = .ok (.aload_n 0, 1) := by decide +kernel
theorem dX4_with_29 : decode cX4_with 29 = .ok (.arraylength, 1) := by decide +kernel
theorem dX4_with_30 : decode cX4_with 30 = .ok (.iload_n 1, 1) := by decide +kernel
theorem dX4_with_31 : decode cX4_with 31 = .ok (.iastore, 1) := by decide +kernel
theorem dX4_with_32 : decode cX4_with 32 = .ok (.aload_n 2, 1) := by decide +kernel
theorem dX4_with_33 : decode cX4_with 33 = .ok (.areturn, 1) := by decide +kernel
theorem dX4_without_0 : decode cX4_without 0 = .ok (.iconst 0, 1) := by decide +kernel
theorem dX4_without_1 : decode cX4_without 1 = .ok (.newarray .int, 2) := by decide +kernel
theorem dX4_without_3 : decode cX4_without 3 = .ok (.astore_n 2, 1) := by decide +kernel
theorem dX4_without_4 : decode cX4_without 4 = .ok (.aload_n 0, 1) := by decide +kernel
theorem dX4_without_5 : decode cX4_without 5 = .ok (.astore_n 3, 1) := by decide +kernel
theorem dX4_without_6 : decode cX4_without 6 = .ok (.aload_n 3, 1) := by decide +kernel
theorem dX4_without_7 : decode cX4_without 7 = .ok (.arraylength, 1) := by decide +kernel
theorem dX4_without_8 : decode cX4_without 8 = .ok (.istore 4, 2) := by decide +kernel
theorem dX4_without_10 : decode cX4_without 10 = .ok (.iconst 0, 1) := by decide +kernel
theorem dX4_without_11 : decode cX4_without 11 = .ok (.istore 5, 2) := by decide +kernel
theorem dX4_without_13 : decode cX4_without 13 = .ok (.iload 5, 2) := by decide +kernel
theorem dX4_without_15 : decode cX4_without 15 = .ok (.iload 4, 2) := by decide +kernel
theorem dX4_without_17 : decode cX4_without 17 = .ok (.if_icmp .ge 28, 3) := by decide +kernel
theorem dX4_without_20 : decode cX4_without 20 = .ok (.aload_n 3, 1) := by decide +kernel
theorem dX4_without_21 : decode cX4_without 21 = .ok (.iload 5, 2) := by decide +kernel
theorem dX4_without_23 : decode cX4_without 23 = .ok (.iaload, 1) := by decide +kernel
theorem dX4_without_24 : decode cX4_without 24 = .ok (.istore 6, 2) := by decide +kernel
theorem dX4_without_26 : decode cX4_without 26 = .ok (.iload 6, 2) := by decide +kernel
theorem dX4_without_28 : decode cX4_without 28 = .ok (.iload_n 1, 1) := by decide +kernel
theorem dX4_without_29 : decode cX4_without 29 = .ok (.if_icmp .eq 10, 3) := by decide +kernel
theorem dX4_without_32 : decode cX4_without 32 = .ok (.aload_n 2, 1) := by decide +kernel
theorem dX4_without_33 : decode cX4_without 33 = .ok (.iload 6, 2) := by decide +kernel
theorem dX4_without_35 : decode cX4_without 35 = .ok (.invokestatic 26, 3) := by decide +kernel
theorem dX4_without_38 : decode cX4_without 38 = .ok (.astore_n 2, 1) := by decide +kernel
theorem dX4_without_39 : decode cX4_without 39 = .ok (.iinc 5 1, 3) := by decide +kernel
theorem dX4_without_42 : decode cX4_without 42 = .ok (.goto (-29), 3) := by decide +kernel
theorem dX4_without_45 : decode cX4_without 45 = .ok (.aload_n 2, 1) := by decide +kernel
theorem dX4_without_46 : decode cX4_without 46 = .ok (.areturn, 1) := by decide +kernel
theorem dX4_bucket_0 : decode cX4_bucket 0 = .ok (.iconst 0, 1) := by decide +kernel
theorem dX4_bucket_1 : decode cX4_bucket 1 = .ok (.istore_n 3, 1) := by decide +kernel
theorem dX4_bucket_2 : decode cX4_bucket 2 = .ok (.iload_n 2, 1) := by decide +kernel
theorem dX4_bucket_3 : decode cX4_bucket 3 = .ok (.iload_n 3, 1) := by decide +kernel
theorem dX4_bucket_4 : decode cX4_bucket 4 = .ok (.ishr, 1) := by decide +kernel
theorem dX4_bucket_5 : decode cX4_bucket 5 = .ok (.aload_n 0, 1) := by decide +kernel
theorem dX4_bucket_6 : decode cX4_bucket 6 = .ok (.getfield 7, 3) := by decide +kernel
theorem dX4_bucket_9 : decode cX4_bucket 9 = .ok (.iload_n 1, 1) := by decide +kernel
theorem dX4_bucket_10 : decode cX4_bucket 10 = .ok (.iaload, 1) := by decide +kernel
theorem dX4_bucket_11 : decode cX4_bucket 11 = .ok (.iload_n 3, 1) := by decide +kernel
theorem dX4_bucket_12 : decode cX4_bucket 12 = .ok (.ishr, 1) := by decide +kernel
theorem dX4_bucket_13 : decode cX4_bucket 13 = .ok (.if_icmp .eq 9, 3) := by decide +kernel
theorem dX4_bucket_16 : decode cX4_bucket 16 = .ok (.iinc 3 1, 3) := by decide +kernel
theorem dX4_bucket_19 : decode cX4_bucket 19 = .ok (.goto (-17), 3) := by decide +kernel
theorem dX4_bucket_22 : decode cX4_bucket 22 = .ok (.iload_n 3, 1) := by decide +kernel
theorem dX4_bucket_23 : decode cX4_bucket 23 = .ok (.ireturn, 1) := by decide +kernel
theorem dX4_put_0 : decode cX4_put 0 = .ok (.aload_n 0, 1) := by decide +kernel
theorem dX4_put_1 : decode cX4_put 1 = .ok (.iload_n 1, 1) := by decide +kernel
theorem dX4_put_2 : decode cX4_put 2 = .ok (.aload_n 0, 1) := by decide +kernel
theorem dX4_put_3 : decode cX4_put 3 = .ok (.getfield 23, 3) := by decide +kernel
theorem dX4_put_6 : decode cX4_put 6 = .ok (.iload_n 2, 1) := by decide +kernel
theorem dX4_put_7 : decode cX4_put 7 = .ok (.aaload, 1) := by decide +kernel
theorem dX4_put_8 : decode cX4_put 8 = .ok (.iconst 0, 1) := by decide +kernel
theorem dX4_put_9 : decode cX4_put 9 = .ok (.iaload, 1) := by decide +kernel
theorem dX4_put_10 : decode cX4_put 10 = .ok (.invokevirtual 42, 3) := by decide +kernel
theorem dX4_put_13 : decode cX4_put 13 = .ok (.istore_n 3, 1) := by decide +kernel
theorem dX4_put_14 : decode cX4_put 14 = .ok (.aload_n 0, 1) := by decide +kernel
theorem dX4_put_15 : decode cX4_put 15 = .ok (.getfield 18, 3) := by decide +kernel
theorem dX4_put_18 : decode cX4_put 18 = .ok (.iload_n 1, 1) := by decide +kernel
theorem dX4_put_19 : decode cX4_put 19 = .ok (.aaload, 1) := by decide +kernel
theorem dX4_put_20 : decode cX4_put 20 = .ok (.iload_n 3, 1) := by decide +kernel
theorem dX4_put_21 : decode cX4_put 21 = .ok (.aload_n 0, 1) := by decide +kernel
theorem dX4_put_22 : decode cX4_put 22 = .ok (.getfield 18, 3) := by decide +kernel
theorem dX4_put_25 : decode cX4_put 25 = .ok (.iload_n 1, 1) := by decide +kernel
theorem dX4_put_26 : decode cX4_put 26 = .ok (.aaload, 1) := by decide +kernel
theorem dX4_put_27 : decode cX4_put 27 = .ok (.iload_n 3, 1) := by decide +kernel
theorem dX4_put_28 : decode cX4_put 28 = .ok (.aaload, 1) := by decide +kernel
theorem dX4_put_29 : decode cX4_put 29 = .ok (.iload_n 2, 1) := by decide +kernel
theorem dX4_put_30 : decode cX4_put 30 = .ok (.invokestatic 26, 3) := by decide +kernel
theorem dX4_put_33 : decode cX4_put 33 = .ok (.aastore, 1) := by decide +kernel
theorem dX4_put_34 : decode cX4_put 34 = .ok (.return_, 1) := by decide +kernel
theorem dX4_move_0 : decode cX4_move 0 = .ok (.aload_n 2, 1) := by decide +kernel
theorem dX4_move_1 : decode cX4_move 1 = .ok (.astore_n 3, 1) := by decide +kernel
theorem dX4_move_2 : decode cX4_move 2 = .ok (.aload_n 3, 1) := by decide +kernel
theorem dX4_move_3 : decode cX4_move 3 = .ok (.arraylength, 1) := by decide +kernel
theorem dX4_move_4 : decode cX4_move 4 = .ok (.istore 4, 2) := by decide +kernel
theorem dX4_move_6 : decode cX4_move 6 = .ok (.iconst 0, 1) := by decide +kernel
theorem dX4_move_7 : decode cX4_move 7 = .ok (.istore 5, 2) := by decide +kernel
theorem dX4_move_9 : decode cX4_move 9 = .ok (.iload 5, 2) := by decide +kernel
theorem dX4_move_11 : decode cX4_move 11 = .ok (.iload 4, 2) := by decide +kernel
theorem dX4_move_13 : decode cX4_move 13 = .ok (.if_icmp .ge 45, 3) := by decide +kernel
theorem dX4_move_16 : decode cX4_move 16 = .ok (.aload_n 3, 1) := by decide +kernel
theorem dX4_move_17 : decode cX4_move 17 = .ok (.iload 5, 2) := by decide +kernel
theorem dX4_move_19 : decode cX4_move 19 = .ok (.iaload, 1) := by decide +kernel
theorem dX4_move_20 : decode cX4_move 20 = .ok (.istore 6, 2) := by decide +kernel
theorem dX4_move_22 : decode cX4_move 22 = .ok (.aload_n 0, 1) := by decide +kernel
theorem dX4_move_23 : decode cX4_move 23 = .ok (.iload_n 1, 1) := by decide +kernel
theorem dX4_move_24 : decode cX4_move 24 = .ok (.iload 6, 2) := by decide +kernel
theorem dX4_move_26 : decode cX4_move 26 = .ok (.invokevirtual 46, 3) := by decide +kernel
theorem dX4_move_29 : decode cX4_move 29 = .ok (.aload_n 0, 1) := by decide +kernel
theorem dX4_move_30 : decode cX4_move 30 = .ok (.getfield 23, 3) := by decide +kernel
theorem dX4_move_33 : decode cX4_move 33 = .ok (.iload 6, 2) := by decide +kernel
theorem dX4_move_35 : decode cX4_move 35 = .ok (.aaload, 1) := by decide +kernel
theorem dX4_move_36 : decode cX4_move 36 = .ok (.iconst 1, 1) := by decide +kernel
theorem dX4_move_37 : decode cX4_move 37 = .ok (.dup2, 1) := by decide +kernel
theorem dX4_move_38 : decode cX4_move 38 = .ok (.iaload, 1) := by decide +kernel
theorem dX4_move_39 : decode cX4_move 39 = .ok (.iconst 1, 1) := by decide +kernel
theorem dX4_move_40 : decode cX4_move 40 = .ok (.iadd, 1) := by decide +kernel
theorem dX4_move_41 : decode cX4_move 41 = .ok (.iastore, 1) := by decide +kernel
theorem dX4_move_42 : decode cX4_move 42 = .ok (.aload_n 0, 1) := by decide +kernel
theorem dX4_move_43 : decode cX4_move 43 = .ok (.dup, 1) := by decide +kernel
theorem dX4_move_44 : decode cX4_move 44 = .ok (.getfield 35, 3) := by decide +kernel
theorem dX4_move_47 : decode cX4_move 47 = .ok (.iconst 1, 1) := by decide +kernel
theorem dX4_move_48 : decode cX4_move 48 = .ok (.iadd, 1) := by decide +kernel
theorem dX4_move_49 : decode cX4_move 49 = .ok (.putfield 35, 3) := by decide +kernel
theorem dX4_move_52 : decode cX4_move 52 = .ok (.iinc 5 1, 3) := by decide +kernel
theorem dX4_move_55 : decode cX4_move 55 = .ok (.goto (-46), 3) := by decide +kernel
theorem dX4_move_58 : decode cX4_move 58 = .ok (.return_, 1) := by decide +kernel
theorem dX4_light_0 : decode cX4_light 0 = .ok (.aload_n 0, 1) := by decide +kernel
theorem dX4_light_1 : decode cX4_light 1 = .ok (.getfield 23, 3) := by decide +kernel
theorem dX4_light_4 : decode cX4_light 4 = .ok (.arraylength, 1) := by decide +kernel
theorem dX4_light_5 : decode cX4_light 5 = .ok (.iconst 1, 1) := by decide +kernel
theorem dX4_light_6 : decode cX4_light 6 = .ok (.iadd, 1) := by decide +kernel
theorem dX4_light_7 : decode cX4_light 7 = .ok (.anewarray 22, 3) := by decide +kernel
theorem dX4_light_10 : decode cX4_light 10 = .ok (.astore_n 3, 1) := by decide +kernel
theorem dX4_light_11 : decode cX4_light 11 = .ok (.iconst 0, 1) := by decide +kernel
theorem dX4_light_12 : decode cX4_light 12 = .ok (.istore 4, 2) := by decide +kernel
theorem dX4_light_14 : decode cX4_light 14 = .ok (.iload 4, 2) := by decide +kernel
theorem dX4_light_16 : decode cX4_light 16 = .ok (.aload_n 0, 1) := by decide +kernel
theorem dX4_light_17 : decode cX4_light 17 = .ok (.getfield 23, 3) := by decide +kernel
theorem dX4_light_20 : decode cX4_light 20 = .ok (.arraylength, 1) := by decide +kernel
theorem dX4_light_21 : decode cX4_light 21 = .ok (.if_icmp .ge 20, 3) := by decide +kernel
theorem dX4_light_24 : decode cX4_light 24 = .ok (.aload_n 3, 1) := by decide +kernel
theorem dX4_light_25 : decode cX4_light 25 = .ok (.iload 4, 2) := by decide +kernel
theorem dX4_light_27 : decode cX4_light 27 = .ok (.aload_n 0, 1) := by decide +kernel
theorem dX4_light_28 : decode cX4_light 28 = .ok (.getfield 23, 3) := by decide +kernel
theorem dX4_light_31 : decode cX4_light 31 = .ok (.iload 4, 2) := by decide +kernel
theorem dX4_light_33 : decode cX4_light 33 = .ok (.aaload, 1) := by decide +kernel
theorem dX4_light_34 : decode cX4_light 34 = .ok (.aastore, 1) := by decide +kernel
theorem dX4_light_35 : decode cX4_light 35 = .ok (.iinc 4 1, 3) := by decide +kernel
theorem dX4_light_38 : decode cX4_light 38 = .ok (.goto (-24), 3) := by decide +kernel
theorem dX4_light_41 : decode cX4_light 41 = .ok (.aload_n 3, 1) := by decide +kernel
theorem dX4_light_42 : decode cX4_light 42 = .ok (.aload_n 0, 1) := by decide +kernel
theorem dX4_light_43 : decode cX4_light 43 = .ok (.getfield 23, 3) := by decide +kernel
theorem dX4_light_46 : decode cX4_light 46 = .ok (.arraylength, 1) := by decide +kernel
theorem dX4_light_47 : decode cX4_light 47 = .ok (.iconst 3, 1) := by decide +kernel
theorem dX4_light_48 : decode cX4_light 48 = .ok (.newarray .int, 2) := by decide +kernel
theorem dX4_light_50 : decode cX4_light 50 = .ok (.dup, 1) := by decide +kernel
theorem dX4_light_51 : decode cX4_light 51 = .ok (.iconst 0, 1) := by decide +kernel
theorem dX4_light_52 : decode cX4_light 52 = .ok (.iload_n 2, 1) := by decide +kernel
theorem dX4_light_53 : decode cX4_light 53 = .ok (.iastore, 1) := by decide +kernel
theorem dX4_light_54 : decode cX4_light 54 = .ok (.dup, 1) := by decide +kernel
theorem dX4_light_55 : decode cX4_light 55 = .ok (.iconst 1, 1) := by decide +kernel
theorem dX4_light_56 : decode cX4_light 56 = .ok (.iconst 0, 1) := by decide +kernel
theorem dX4_light_57 : decode cX4_light 57 = .ok (.iastore, 1) := by decide +kernel
theorem dX4_light_58 : decode cX4_light 58 = .ok (.dup, 1) := by decide +kernel
theorem dX4_light_59 : decode cX4_light 59 = .ok (.iconst 2, 1) := by decide +kernel
theorem dX4_light_60 : decode cX4_light 60 = .ok (.iconst 0, 1) := by decide +kernel
theorem dX4_light_61 : decode cX4_light 61 = .ok (.iastore, 1) := by decide +kernel
theorem dX4_light_62 : decode cX4_light 62 = .ok (.aastore, 1) := by decide +kernel
theorem dX4_light_63 : decode cX4_light 63 = .ok (.aload_n 0, 1) := by decide +kernel
theorem dX4_light_64 : decode cX4_light 64 = .ok (.aload_n 3, 1) := by decide +kernel
theorem dX4_light_65 : decode cX4_light 65 = .ok (.putfield 23, 3) := by decide +kernel
theorem dX4_light_68 : decode cX4_light 68 = .ok (.aload_n 0, 1) := by decide +kernel
theorem dX4_light_69 : decode cX4_light 69 = .ok (.iload_n 1, 1) := by decide +kernel
theorem dX4_light_70 : decode cX4_light 70 = .ok (.aload_n 0, 1) := by decide +kernel
theorem dX4_light_71 : decode cX4_light 71 = .ok (.getfield 23, 3) := by decide +kernel
theorem dX4_light_74 : decode cX4_light 74 = .ok (.arraylength, 1) := by decide +kernel
theorem dX4_light_75 : decode cX4_light 75 = .ok (.iconst 1, 1) := by decide +kernel
theorem dX4_light_76 : decode cX4_light 76 = .ok (.isub, 1) := by decide +kernel
theorem dX4_light_77 : decode cX4_light 77 = .ok (.invokevirtual 46, 3) := by decide +kernel
theorem dX4_light_80 : decode cX4_light 80 = .ok (.aload_n 0, 1) := by decide +kernel
theorem dX4_light_81 : decode cX4_light 81 = .ok (.getfield 23, 3) := by decide +kernel
theorem dX4_light_84 : decode cX4_light 84 = .ok (.arraylength, 1) := by decide +kernel
theorem dX4_light_85 : decode cX4_light 85 = .ok (.iconst 1, 1) := by decide +kernel
theorem dX4_light_86 : decode cX4_light 86 = .ok (.isub, 1) := by decide +kernel
theorem dX4_light_87 : decode cX4_light 87 = .ok (.ireturn, 1) := by decide +kernel
theorem dX4_where_0 : decode cX4_where 0 = .ok (.iconst 0, 1) := by decide +kernel
theorem dX4_where_1 : decode cX4_where 1 = .ok (.istore_n 2, 1) := by decide +kernel
theorem dX4_where_2 : decode cX4_where 2 = .ok (.iload_n 2, 1) := by decide +kernel
theorem dX4_where_3 : decode cX4_where 3 = .ok (.iconst 2, 1) := by decide +kernel
theorem dX4_where_4 : decode cX4_where 4 = .ok (.if_icmp .ge 79, 3) := by decide +kernel
theorem dX4_where_7 : decode cX4_where 7 = .ok (.iconst 0, 1) := by decide +kernel
theorem dX4_where_8 : decode cX4_where 8 = .ok (.istore_n 3, 1) := by decide +kernel
theorem dX4_where_9 : decode cX4_where 9 = .ok (.iload_n 3, 1) := by decide +kernel
theorem dX4_where_10 : decode cX4_where 10 = .ok (.bipush 11, 2) := by decide +kernel
theorem dX4_where_12 : decode cX4_where 12 = .ok (.if_icmp .ge 65, 3) := by decide +kernel
theorem dX4_where_15 : decode cX4_where 15 = .ok (.aload_n 0, 1) := by decide +kernel
theorem dX4_where_16 : decode cX4_where 16 = .ok (.getfield 18, 3) := by decide +kernel
theorem dX4_where_19 : decode cX4_where 19 = .ok (.iload_n 2, 1) := by decide +kernel
theorem dX4_where_20 : decode cX4_where 20 = .ok (.aaload, 1) := by decide +kernel
theorem dX4_where_21 : decode cX4_where 21 = .ok (.iload_n 3, 1) := by decide +kernel
theorem dX4_where_22 : decode cX4_where 22 = .ok (.aaload, 1) := by decide +kernel
theorem dX4_where_23 : decode cX4_where 23 = .ok (.astore 4, 2) := by decide +kernel
theorem dX4_where_25 : decode cX4_where 25 = .ok (.aload 4, 2) := by decide +kernel
theorem dX4_where_27 : decode cX4_where 27 = .ok (.arraylength, 1) := by decide +kernel
theorem dX4_where_28 : decode cX4_where 28 = .ok (.istore 5, 2) := by decide +kernel
theorem dX4_where_30 : decode cX4_where 30 = .ok (.iconst 0, 1) := by decide +kernel
theorem dX4_where_31 : decode cX4_where 31 = .ok (.istore 6, 2) := by decide +kernel
theorem dX4_where_33 : decode cX4_where 33 = .ok (.iload 6, 2) := by decide +kernel
theorem dX4_where_35 : decode cX4_where 35 = .ok (.iload 5, 2) := by decide +kernel
theorem dX4_where_37 : decode cX4_where 37 = .ok (.if_icmp .ge 34, 3) := by decide +kernel
theorem dX4_where_40 : decode cX4_where 40 = .ok (.aload 4, 2) := by decide +kernel
theorem dX4_where_42 : decode cX4_where 42 = .ok (.iload 6, 2) := by decide +kernel
theorem dX4_where_44 : decode cX4_where 44 = .ok (.iaload, 1) := by decide +kernel
theorem dX4_where_45 : decode cX4_where 45 = .ok (.istore 7, 2) := by decide +kernel
theorem dX4_where_47 : decode cX4_where 47 = .ok (.iload 7, 2) := by decide +kernel
theorem dX4_where_49 : decode cX4_where 49 = .ok (.iload_n 1, 1) := by decide +kernel
theorem dX4_where_50 : decode cX4_where 50 = .ok (.if_icmp .ne 15, 3) := by decide +kernel
theorem dX4_where_53 : decode cX4_where 53 = .ok (.iconst 2, 1) := by decide +kernel
theorem dX4_where_54 : decode cX4_where 54 = .ok (.newarray .int, 2) := by decide +kernel
theorem dX4_where_56 : decode cX4_where 56 = .ok (.dup, 1) := by decide +kernel
theorem dX4_where_57 : decode cX4_where 57 = .ok (.iconst 0, 1) := by decide +kernel
theorem dX4_where_58 : decode cX4_where 58 = .ok (.iload_n 2, 1) := by decide +kernel
theorem dX4_where_59 : decode cX4_where 59 = .ok (.iastore, 1) := by decide +kernel
theorem dX4_where_60 : decode cX4_where 60 = .ok (.dup, 1) := by decide +kernel
theorem dX4_where_61 : decode cX4_where 61 = .ok (.iconst 1, 1) := by decide +kernel
theorem dX4_where_62 : decode cX4_where 62 = .ok (.iload_n 3, 1) := by decide +kernel
theorem dX4_where_63 : decode cX4_where 63 = .ok (.iastore, 1) := by decide +kernel
theorem dX4_where_64 : decode cX4_where 64 = .ok (.areturn, 1) := by decide +kernel
theorem dX4_where_65 : decode cX4_where 65 = .ok (.iinc 6 1, 3) := by decide +kernel
theorem dX4_where_68 : decode cX4_where 68 = .ok (.goto (-35), 3) := by decide +kernel
theorem dX4_where_71 : decode cX4_where 71 = .ok (.iinc 3 1, 3) := by decide +kernel
theorem dX4_where_74 : decode cX4_where 74 = .ok (.goto (-65), 3) := by decide +kernel
theorem dX4_where_77 : decode cX4_where 77 = .ok (.iinc 2 1, 3) := by decide +kernel
theorem dX4_where_80 : decode cX4_where 80 = .ok (.goto (-78), 3) := by decide +kernel
theorem dX4_where_83 : decode cX4_where 83 = .ok (.iconst 2, 1) := by decide +kernel
theorem dX4_where_84 : decode cX4_where 84 = .ok (.newarray .int, 2) := by decide +kernel
theorem dX4_where_86 : decode cX4_where 86 = .ok (.dup, 1) := by decide +kernel
theorem dX4_where_87 : decode cX4_where 87 = .ok (.iconst 0, 1) := by decide +kernel
theorem dX4_where_88 : decode cX4_where 88 = .ok (.iconst (-1), 1) := by decide +kernel
theorem dX4_where_89 : decode cX4_where 89 = .ok (.iastore, 1) := by decide +kernel
theorem dX4_where_90 : decode cX4_where 90 = .ok (.dup, 1) := by decide +kernel
theorem dX4_where_91 : decode cX4_where 91 = .ok (.iconst 1, 1) := by decide +kernel
theorem dX4_where_92 : decode cX4_where 92 = .ok (.iconst (-1), 1) := by decide +kernel
theorem dX4_where_93 : decode cX4_where 93 = .ok (.iastore, 1) := by decide +kernel
theorem dX4_where_94 : decode cX4_where 94 = .ok (.areturn, 1) := by decide +kernel
theorem dX4_takeOut_0 : decode cX4_takeOut 0 = .ok (.aload_n 0, 1) := by decide +kernel
theorem dX4_takeOut_1 : decode cX4_takeOut 1 = .ok (.iload_n 1, 1) := by decide +kernel
theorem dX4_takeOut_2 : decode cX4_takeOut 2 = .ok (.invokevirtual 50, 3) := by decide +kernel
theorem dX4_takeOut_5 : decode cX4_takeOut 5 = .ok (.astore_n 2, 1) := by decide +kernel
theorem dX4_takeOut_6 : decode cX4_takeOut 6 = .ok (.aload_n 0, 1) := by decide +kernel
theorem dX4_takeOut_7 : decode cX4_takeOut 7 = .ok (.getfield 18, 3) := by decide +kernel
theorem dX4_takeOut_10 : decode cX4_takeOut 10 = .ok (.aload_n 2, 1) := by decide +kernel
theorem dX4_takeOut_11 : decode cX4_takeOut 11 = .ok (.iconst 0, 1) := by decide +kernel
theorem dX4_takeOut_12 : decode cX4_takeOut 12 = .ok (.iaload, 1) := by decide +kernel
theorem dX4_takeOut_13 : decode cX4_takeOut 13 = .ok (.aaload, 1) := by decide +kernel
theorem dX4_takeOut_14 : decode cX4_takeOut 14 = .ok (.aload_n 2, 1) := by decide +kernel
theorem dX4_takeOut_15 : decode cX4_takeOut 15 = .ok (.iconst 1, 1) := by decide +kernel
theorem dX4_takeOut_16 : decode cX4_takeOut 16 = .ok (.iaload, 1) := by decide +kernel
theorem dX4_takeOut_17 : decode cX4_takeOut 17 = .ok (.aload_n 0, 1) := by decide +kernel
theorem dX4_takeOut_18 : decode cX4_takeOut 18 = .ok (.getfield 18, 3) := by decide +kernel
theorem dX4_takeOut_21 : decode cX4_takeOut 21 = .ok (.aload_n 2, 1) := by decide +kernel
theorem dX4_takeOut_22 : decode cX4_takeOut 22 = .ok (.iconst 0, 1) := by decide +kernel
theorem dX4_takeOut_23 : decode cX4_takeOut 23 = .ok (.iaload, 1) := by decide +kernel
theorem dX4_takeOut_24 : decode cX4_takeOut 24 = .ok (.aaload, 1) := by decide +kernel
theorem dX4_takeOut_25 : decode cX4_takeOut 25 = .ok (.aload_n 2, 1) := by decide +kernel
theorem dX4_takeOut_26 : decode cX4_takeOut 26 = .ok (.iconst 1, 1) := by decide +kernel
theorem dX4_takeOut_27 : decode cX4_takeOut 27 = .ok (.iaload, 1) := by decide +kernel
theorem dX4_takeOut_28 : decode cX4_takeOut 28 = .ok (.aaload, 1) := by decide +kernel
theorem dX4_takeOut_29 : decode cX4_takeOut 29 = .ok (.iload_n 1, 1) := by decide +kernel
theorem dX4_takeOut_30 : decode cX4_takeOut 30 = .ok (.invokestatic 54, 3) := by decide +kernel
theorem dX4_takeOut_33 : decode cX4_takeOut 33 = .ok (.aastore, 1) := by decide +kernel
theorem dX4_takeOut_34 : decode cX4_takeOut 34 = .ok (.return_, 1) := by decide +kernel
theorem dX4_all_0 : decode cX4_all 0 = .ok (.iconst 0, 1) := by decide +kernel
theorem dX4_all_1 : decode cX4_all 1 = .ok (.newarray .int, 2) := by decide +kernel
theorem dX4_all_3 : decode cX4_all 3 = .ok (.astore_n 2, 1) := by decide +kernel
theorem dX4_all_4 : decode cX4_all 4 = .ok (.aload_n 0, 1) := by decide +kernel
theorem dX4_all_5 : decode cX4_all 5 = .ok (.getfield 18, 3) := by decide +kernel
theorem dX4_all_8 : decode cX4_all 8 = .ok (.iload_n 1, 1) := by decide +kernel
theorem dX4_all_9 : decode cX4_all 9 = .ok (.aaload, 1) := by decide +kernel
theorem dX4_all_10 : decode cX4_all 10 = .ok (.astore_n 3, 1) := by decide +kernel
theorem dX4_all_11 : decode cX4_all 11 = .ok (.aload_n 3, 1) := by decide +kernel
theorem dX4_all_12 : decode cX4_all 12 = .ok (.arraylength, 1) := by decide +kernel
theorem dX4_all_13 : decode cX4_all 13 = .ok (.istore 4, 2) := by decide +kernel
theorem dX4_all_15 : decode cX4_all 15 = .ok (.iconst 0, 1) := by decide +kernel
theorem dX4_all_16 : decode cX4_all 16 = .ok (.istore 5, 2) := by decide +kernel
theorem dX4_all_18 : decode cX4_all 18 = .ok (.iload 5, 2) := by decide +kernel
theorem dX4_all_20 : decode cX4_all 20 = .ok (.iload 4, 2) := by decide +kernel
theorem dX4_all_22 : decode cX4_all 22 = .ok (.if_icmp .ge 54, 3) := by decide +kernel
theorem dX4_all_25 : decode cX4_all 25 = .ok (.aload_n 3, 1) := by decide +kernel
theorem dX4_all_26 : decode cX4_all 26 = .ok (.iload 5, 2) := by decide +kernel
theorem dX4_all_28 : decode cX4_all 28 = .ok (.aaload, 1) := by decide +kernel
theorem dX4_all_29 : decode cX4_all 29 = .ok (.astore 6, 2) := by decide +kernel
theorem dX4_all_31 : decode cX4_all 31 = .ok (.aload 6, 2) := by decide +kernel
theorem dX4_all_33 : decode cX4_all 33 = .ok (.astore 7, 2) := by decide +kernel
theorem dX4_all_35 : decode cX4_all 35 = .ok (.aload 7, 2) := by decide +kernel
theorem dX4_all_37 : decode cX4_all 37 = .ok (.arraylength, 1) := by decide +kernel
theorem dX4_all_38 : decode cX4_all 38 = .ok (.istore 8, 2) := by decide +kernel
theorem dX4_all_40 : decode cX4_all 40 = .ok (.iconst 0, 1) := by decide +kernel
theorem dX4_all_41 : decode cX4_all 41 = .ok (.istore 9, 2) := by decide +kernel
theorem dX4_all_43 : decode cX4_all 43 = .ok (.iload 9, 2) := by decide +kernel
theorem dX4_all_45 : decode cX4_all 45 = .ok (.iload 8, 2) := by decide +kernel
theorem dX4_all_47 : decode cX4_all 47 = .ok (.if_icmp .ge 23, 3) := by decide +kernel
theorem dX4_all_50 : decode cX4_all 50 = .ok (.aload 7, 2) := by decide +kernel
theorem dX4_all_52 : decode cX4_all 52 = .ok (.iload 9, 2) := by decide +kernel
theorem dX4_all_54 : decode cX4_all 54 = .ok (.iaload, 1) := by decide +kernel
theorem dX4_all_55 : decode cX4_all 55 = .ok (.istore 10, 2) := by decide +kernel
theorem dX4_all_57 : decode cX4_all 57 = .ok (.aload_n 2, 1) := by decide +kernel
theorem dX4_all_58 : decode cX4_all 58 = .ok (.iload 10, 2) := by decide +kernel
theorem dX4_all_60 : decode cX4_all 60 = .ok (.invokestatic 26, 3) := by decide +kernel
theorem dX4_all_63 : decode cX4_all 63 = .ok (.astore_n 2, 1) := by decide +kernel
theorem dX4_all_64 : decode cX4_all 64 = .ok (.iinc 9 1, 3) := by decide +kernel
theorem dX4_all_67 : decode cX4_all 67 = .ok (.goto (-24), 3) := by decide +kernel
theorem dX4_all_70 : decode cX4_all 70 = .ok (.iinc 5 1, 3) := by decide +kernel
theorem dX4_all_73 : decode cX4_all 73 = .ok (.goto (-55), 3) := by decide +kernel
theorem dX4_all_76 : decode cX4_all 76 = .ok (.aload_n 2, 1) := by decide +kernel
theorem dX4_all_77 : decode cX4_all 77 = .ok (.areturn, 1) := by decide +kernel
theorem dX4_least_0 : decode cX4_least 0 = .ok (.sipush 1023, 3) := by decide +kernel
theorem dX4_least_3 : decode cX4_least 3 = .ok (.istore_n 2, 1) := by decide +kernel
theorem dX4_least_4 : decode cX4_least 4 = .ok (.aload_n 0, 1) := by decide +kernel
theorem dX4_least_5 : decode cX4_least 5 = .ok (.iload_n 1, 1) := by decide +kernel
theorem dX4_least_6 : decode cX4_least 6 = .ok (.invokevirtual 57, 3) := by decide +kernel
theorem dX4_least_9 : decode cX4_least 9 = .ok (.astore_n 3, 1) := by decide +kernel
theorem dX4_least_10 : decode cX4_least 10 = .ok (.aload_n 3, 1) := by decide +kernel
theorem dX4_least_11 : decode cX4_least 11 = .ok (.arraylength, 1) := by decide +kernel
theorem dX4_least_12 : decode cX4_least 12 = .ok (.istore 4, 2) := by decide +kernel
theorem dX4_least_14 : decode cX4_least 14 = .ok (.iconst 0, 1) := by decide +kernel
theorem dX4_least_15 : decode cX4_least 15 = .ok (.istore 5, 2) := by decide +kernel
theorem dX4_least_17 : decode cX4_least 17 = .ok (.iload 5, 2) := by decide +kernel
theorem dX4_least_19 : decode cX4_least 19 = .ok (.iload 4, 2) := by decide +kernel
theorem dX4_least_21 : decode cX4_least 21 = .ok (.if_icmp .ge 29, 3) := by decide +kernel
theorem dX4_least_24 : decode cX4_least 24 = .ok (.aload_n 3, 1) := by decide +kernel
theorem dX4_least_25 : decode cX4_least 25 = .ok (.iload 5, 2) := by decide +kernel
theorem dX4_least_27 : decode cX4_least 27 = .ok (.iaload, 1) := by decide +kernel
theorem dX4_least_28 : decode cX4_least 28 = .ok (.istore 6, 2) := by decide +kernel
theorem dX4_least_30 : decode cX4_least 30 = .ok (.iload_n 2, 1) := by decide +kernel
theorem dX4_least_31 : decode cX4_least 31 = .ok (.aload_n 0, 1) := by decide +kernel
theorem dX4_least_32 : decode cX4_least 32 = .ok (.getfield 23, 3) := by decide +kernel
theorem dX4_least_35 : decode cX4_least 35 = .ok (.iload 6, 2) := by decide +kernel
theorem dX4_least_37 : decode cX4_least 37 = .ok (.aaload, 1) := by decide +kernel
theorem dX4_least_38 : decode cX4_least 38 = .ok (.iconst 0, 1) := by decide +kernel
theorem dX4_least_39 : decode cX4_least 39 = .ok (.iaload, 1) := by decide +kernel
theorem dX4_least_40 : decode cX4_least 40 = .ok (.invokestatic 60, 3) := by decide +kernel
theorem dX4_least_43 : decode cX4_least 43 = .ok (.istore_n 2, 1) := by decide +kernel
theorem dX4_least_44 : decode cX4_least 44 = .ok (.iinc 5 1, 3) := by decide +kernel
theorem dX4_least_47 : decode cX4_least 47 = .ok (.goto (-30), 3) := by decide +kernel
theorem dX4_least_50 : decode cX4_least 50 = .ok (.iload_n 2, 1) := by decide +kernel
theorem dX4_least_51 : decode cX4_least 51 = .ok (.ireturn, 1) := by decide +kernel
theorem dX4_rake_0 : decode cX4_rake 0 = .ok (.iconst 0, 1) := by decide +kernel
theorem dX4_rake_1 : decode cX4_rake 1 = .ok (.istore_n 2, 1) := by decide +kernel
theorem dX4_rake_2 : decode cX4_rake 2 = .ok (.aload_n 0, 1) := by decide +kernel
theorem dX4_rake_3 : decode cX4_rake 3 = .ok (.getfield 18, 3) := by decide +kernel
theorem dX4_rake_6 : decode cX4_rake 6 = .ok (.iload_n 1, 1) := by decide +kernel
theorem dX4_rake_7 : decode cX4_rake 7 = .ok (.aaload, 1) := by decide +kernel
theorem dX4_rake_8 : decode cX4_rake 8 = .ok (.iload_n 2, 1) := by decide +kernel
theorem dX4_rake_9 : decode cX4_rake 9 = .ok (.aaload, 1) := by decide +kernel
theorem dX4_rake_10 : decode cX4_rake 10 = .ok (.arraylength, 1) := by decide +kernel
theorem dX4_rake_11 : decode cX4_rake 11 = .ok (.ifCond .ne 9, 3) := by decide +kernel
theorem dX4_rake_14 : decode cX4_rake 14 = .ok (.iinc 2 1, 3) := by decide +kernel
theorem dX4_rake_17 : decode cX4_rake 17 = .ok (.goto (-15), 3) := by decide +kernel
theorem dX4_rake_20 : decode cX4_rake 20 = .ok (.iload_n 2, 1) := by decide +kernel
theorem dX4_rake_21 : decode cX4_rake 21 = .ok (.ifCond .le 100, 3) := by decide +kernel
theorem dX4_rake_24 : decode cX4_rake 24 = .ok (.aload_n 0, 1) := by decide +kernel
theorem dX4_rake_25 : decode cX4_rake 25 = .ok (.getfield 18, 3) := by decide +kernel
theorem dX4_rake_28 : decode cX4_rake 28 = .ok (.iload_n 1, 1) := by decide +kernel
theorem dX4_rake_29 : decode cX4_rake 29 = .ok (.aaload, 1) := by decide +kernel
theorem dX4_rake_30 : decode cX4_rake 30 = .ok (.iload_n 2, 1) := by decide +kernel
theorem dX4_rake_31 : decode cX4_rake 31 = .ok (.aaload, 1) := by decide +kernel
theorem dX4_rake_32 : decode cX4_rake 32 = .ok (.astore_n 3, 1) := by decide +kernel
theorem dX4_rake_33 : decode cX4_rake 33 = .ok (.aload_n 0, 1) := by decide +kernel
theorem dX4_rake_34 : decode cX4_rake 34 = .ok (.getfield 18, 3) := by decide +kernel
theorem dX4_rake_37 : decode cX4_rake 37 = .ok (.iload_n 1, 1) := by decide +kernel
theorem dX4_rake_38 : decode cX4_rake 38 = .ok (.aaload, 1) := by decide +kernel
theorem dX4_rake_39 : decode cX4_rake 39 = .ok (.iload_n 2, 1) := by decide +kernel
theorem dX4_rake_40 : decode cX4_rake 40 = .ok (.iconst 0, 1) := by decide +kernel
theorem dX4_rake_41 : decode cX4_rake 41 = .ok (.newarray .int, 2) := by decide +kernel
theorem dX4_rake_43 : decode cX4_rake 43 = .ok (.aastore, 1) := by decide +kernel
theorem dX4_rake_44 : decode cX4_rake 44 = .ok (.aload_n 0, 1) := by decide +kernel
theorem dX4_rake_45 : decode cX4_rake 45 = .ok (.getfield 7, 3) := by decide +kernel
theorem dX4_rake_48 : decode cX4_rake 48 = .ok (.iload_n 1, 1) := by decide +kernel
theorem dX4_rake_49 : decode cX4_rake 49 = .ok (.aload_n 0, 1) := by decide +kernel
theorem dX4_rake_50 : decode cX4_rake 50 = .ok (.getfield 23, 3) := by decide +kernel
theorem dX4_rake_53 : decode cX4_rake 53 = .ok (.aload_n 3, 1) := by decide +kernel
theorem dX4_rake_54 : decode cX4_rake 54 = .ok (.iconst 0, 1) := by decide +kernel
theorem dX4_rake_55 : decode cX4_rake 55 = .ok (.iaload, 1) := by decide +kernel
theorem dX4_rake_56 : decode cX4_rake 56 = .ok (.aaload, 1) := by decide +kernel
theorem dX4_rake_57 : decode cX4_rake 57 = .ok (.iconst 0, 1) := by decide +kernel
theorem dX4_rake_58 : decode cX4_rake 58 = .ok (.iaload, 1) := by decide +kernel
theorem dX4_rake_59 : decode cX4_rake 59 = .ok (.iastore, 1) := by decide +kernel
theorem dX4_rake_60 : decode cX4_rake 60 = .ok (.aload_n 3, 1) := by decide +kernel
theorem dX4_rake_61 : decode cX4_rake 61 = .ok (.astore 4, 2) := by decide +kernel
theorem dX4_rake_63 : decode cX4_rake 63 = .ok (.aload 4, 2) := by decide +kernel
theorem dX4_rake_65 : decode cX4_rake 65 = .ok (.arraylength, 1) := by decide +kernel
theorem dX4_rake_66 : decode cX4_rake 66 = .ok (.istore 5, 2) := by decide +kernel
theorem dX4_rake_68 : decode cX4_rake 68 = .ok (.iconst 0, 1) := by decide +kernel
theorem dX4_rake_69 : decode cX4_rake 69 = .ok (.istore 6, 2) := by decide +kernel
theorem dX4_rake_71 : decode cX4_rake 71 = .ok (.iload 6, 2) := by decide +kernel
theorem dX4_rake_73 : decode cX4_rake 73 = .ok (.iload 5, 2) := by decide +kernel
theorem dX4_rake_75 : decode cX4_rake 75 = .ok (.if_icmp .ge 40, 3) := by decide +kernel
theorem dX4_rake_78 : decode cX4_rake 78 = .ok (.aload 4, 2) := by decide +kernel
theorem dX4_rake_80 : decode cX4_rake 80 = .ok (.iload 6, 2) := by decide +kernel
theorem dX4_rake_82 : decode cX4_rake 82 = .ok (.iaload, 1) := by decide +kernel
theorem dX4_rake_83 : decode cX4_rake 83 = .ok (.istore 7, 2) := by decide +kernel
theorem dX4_rake_85 : decode cX4_rake 85 = .ok (.aload_n 0, 1) := by decide +kernel
theorem dX4_rake_86 : decode cX4_rake 86 = .ok (.getfield 7, 3) := by decide +kernel
theorem dX4_rake_89 : decode cX4_rake 89 = .ok (.iload_n 1, 1) := by decide +kernel
theorem dX4_rake_90 : decode cX4_rake 90 = .ok (.aload_n 0, 1) := by decide +kernel
theorem dX4_rake_91 : decode cX4_rake 91 = .ok (.getfield 7, 3) := by decide +kernel
theorem dX4_rake_94 : decode cX4_rake 94 = .ok (.iload_n 1, 1) := by decide +kernel
theorem dX4_rake_95 : decode cX4_rake 95 = .ok (.iaload, 1) := by decide +kernel
theorem dX4_rake_96 : decode cX4_rake 96 = .ok (.aload_n 0, 1) := by decide +kernel
theorem dX4_rake_97 : decode cX4_rake 97 = .ok (.getfield 23, 3) := by decide +kernel
theorem dX4_rake_100 : decode cX4_rake 100 = .ok (.iload 7, 2) := by decide +kernel
theorem dX4_rake_102 : decode cX4_rake 102 = .ok (.aaload, 1) := by decide +kernel
theorem dX4_rake_103 : decode cX4_rake 103 = .ok (.iconst 0, 1) := by decide +kernel
theorem dX4_rake_104 : decode cX4_rake 104 = .ok (.iaload, 1) := by decide +kernel
theorem dX4_rake_105 : decode cX4_rake 105 = .ok (.invokestatic 60, 3) := by decide +kernel
theorem dX4_rake_108 : decode cX4_rake 108 = .ok (.iastore, 1) := by decide +kernel
theorem dX4_rake_109 : decode cX4_rake 109 = .ok (.iinc 6 1, 3) := by decide +kernel
theorem dX4_rake_112 : decode cX4_rake 112 = .ok (.goto (-41), 3) := by decide +kernel
theorem dX4_rake_115 : decode cX4_rake 115 = .ok (.aload_n 0, 1) := by decide +kernel
theorem dX4_rake_116 : decode cX4_rake 116 = .ok (.iload_n 1, 1) := by decide +kernel
theorem dX4_rake_117 : decode cX4_rake 117 = .ok (.aload_n 3, 1) := by decide +kernel
theorem dX4_rake_118 : decode cX4_rake 118 = .ok (.invokevirtual 65, 3) := by decide +kernel
theorem dX4_rake_121 : decode cX4_rake 121 = .ok (.aload_n 0, 1) := by decide +kernel
theorem dX4_rake_122 : decode cX4_rake 122 = .ok (.getfield 18, 3) := by decide +kernel
theorem dX4_rake_125 : decode cX4_rake 125 = .ok (.iload_n 1, 1) := by decide +kernel
theorem dX4_rake_126 : decode cX4_rake 126 = .ok (.aaload, 1) := by decide +kernel
theorem dX4_rake_127 : decode cX4_rake 127 = .ok (.iconst 0, 1) := by decide +kernel
theorem dX4_rake_128 : decode cX4_rake 128 = .ok (.aaload, 1) := by decide +kernel
theorem dX4_rake_129 : decode cX4_rake 129 = .ok (.iconst 0, 1) := by decide +kernel
theorem dX4_rake_130 : decode cX4_rake 130 = .ok (.iaload, 1) := by decide +kernel
theorem dX4_rake_131 : decode cX4_rake 131 = .ok (.istore_n 3, 1) := by decide +kernel
theorem dX4_rake_132 : decode cX4_rake 132 = .ok (.aload_n 0, 1) := by decide +kernel
theorem dX4_rake_133 : decode cX4_rake 133 = .ok (.getfield 18, 3) := by decide +kernel
theorem dX4_rake_136 : decode cX4_rake 136 = .ok (.iload_n 1, 1) := by decide +kernel
theorem dX4_rake_137 : decode cX4_rake 137 = .ok (.aaload, 1) := by decide +kernel
theorem dX4_rake_138 : decode cX4_rake 138 = .ok (.iconst 0, 1) := by decide +kernel
theorem dX4_rake_139 : decode cX4_rake 139 = .ok (.aload_n 0, 1) := by decide +kernel
theorem dX4_rake_140 : decode cX4_rake 140 = .ok (.getfield 18, 3) := by decide +kernel
theorem dX4_rake_143 : decode cX4_rake 143 = .ok (.iload_n 1, 1) := by decide +kernel
theorem dX4_rake_144 : decode cX4_rake 144 = .ok (.aaload, 1) := by decide +kernel
theorem dX4_rake_145 : decode cX4_rake 145 = .ok (.iconst 0, 1) := by decide +kernel
theorem dX4_rake_146 : decode cX4_rake 146 = .ok (.aaload, 1) := by decide +kernel
theorem dX4_rake_147 : decode cX4_rake 147 = .ok (.iload_n 3, 1) := by decide +kernel
theorem dX4_rake_148 : decode cX4_rake 148 = .ok (.invokestatic 54, 3) := by decide +kernel
theorem dX4_rake_151 : decode cX4_rake 151 = .ok (.aastore, 1) := by decide +kernel
theorem dX4_rake_152 : decode cX4_rake 152 = .ok (.aload_n 0, 1) := by decide +kernel
theorem dX4_rake_153 : decode cX4_rake 153 = .ok (.getfield 23, 3) := by decide +kernel
theorem dX4_rake_156 : decode cX4_rake 156 = .ok (.iload_n 3, 1) := by decide +kernel
theorem dX4_rake_157 : decode cX4_rake 157 = .ok (.aaload, 1) := by decide +kernel
theorem dX4_rake_158 : decode cX4_rake 158 = .ok (.iconst 2, 1) := by decide +kernel
theorem dX4_rake_159 : decode cX4_rake 159 = .ok (.iconst 1, 1) := by decide +kernel
theorem dX4_rake_160 : decode cX4_rake 160 = .ok (.iastore, 1) := by decide +kernel
theorem dX4_rake_161 : decode cX4_rake 161 = .ok (.aload_n 0, 1) := by decide +kernel
theorem dX4_rake_162 : decode cX4_rake 162 = .ok (.getfield 13, 3) := by decide +kernel
theorem dX4_rake_165 : decode cX4_rake 165 = .ok (.iload_n 1, 1) := by decide +kernel
theorem dX4_rake_166 : decode cX4_rake 166 = .ok (.dup2, 1) := by decide +kernel
theorem dX4_rake_167 : decode cX4_rake 167 = .ok (.iaload, 1) := by decide +kernel
theorem dX4_rake_168 : decode cX4_rake 168 = .ok (.iconst 1, 1) := by decide +kernel
theorem dX4_rake_169 : decode cX4_rake 169 = .ok (.iadd, 1) := by decide +kernel
theorem dX4_rake_170 : decode cX4_rake 170 = .ok (.iastore, 1) := by decide +kernel
theorem dX4_rake_171 : decode cX4_rake 171 = .ok (.iload_n 3, 1) := by decide +kernel
theorem dX4_rake_172 : decode cX4_rake 172 = .ok (.ireturn, 1) := by decide +kernel
theorem dX4_raise_0 : decode cX4_raise 0 = .ok (.iload_n 2, 1) := by decide +kernel
theorem dX4_raise_1 : decode cX4_raise 1 = .ok (.aload_n 0, 1) := by decide +kernel
theorem dX4_raise_2 : decode cX4_raise 2 = .ok (.getfield 7, 3) := by decide +kernel
theorem dX4_raise_5 : decode cX4_raise 5 = .ok (.iload_n 1, 1) := by decide +kernel
theorem dX4_raise_6 : decode cX4_raise 6 = .ok (.iaload, 1) := by decide +kernel
theorem dX4_raise_7 : decode cX4_raise 7 = .ok (.if_icmp .ne 5, 3) := by decide +kernel
theorem dX4_raise_10 : decode cX4_raise 10 = .ok (.iconst 0, 1) := by decide +kernel
theorem dX4_raise_11 : decode cX4_raise 11 = .ok (.ireturn, 1) := by decide +kernel
theorem dX4_raise_12 : decode cX4_raise 12 = .ok (.aload_n 0, 1) := by decide +kernel
theorem dX4_raise_13 : decode cX4_raise 13 = .ok (.iload_n 1, 1) := by decide +kernel
theorem dX4_raise_14 : decode cX4_raise 14 = .ok (.invokevirtual 57, 3) := by decide +kernel
theorem dX4_raise_17 : decode cX4_raise 17 = .ok (.astore_n 3, 1) := by decide +kernel
theorem dX4_raise_18 : decode cX4_raise 18 = .ok (.aload_n 0, 1) := by decide +kernel
theorem dX4_raise_19 : decode cX4_raise 19 = .ok (.getfield 18, 3) := by decide +kernel
theorem dX4_raise_22 : decode cX4_raise 22 = .ok (.iload_n 1, 1) := by decide +kernel
theorem dX4_raise_23 : decode cX4_raise 23 = .ok (.bipush 11, 2) := by decide +kernel
theorem dX4_raise_25 : decode cX4_raise 25 = .ok (.iconst 0, 1) := by decide +kernel
theorem dX4_raise_26 : decode cX4_raise 26 = .ok (.multianewarray 16 2, 4) := by decide +kernel
theorem dX4_raise_30 : decode cX4_raise 30 = .ok (.aastore, 1) := by decide +kernel
theorem dX4_raise_31 : decode cX4_raise 31 = .ok (.aload_n 0, 1) := by decide +kernel
theorem dX4_raise_32 : decode cX4_raise 32 = .ok (.getfield 7, 3) := by decide +kernel
theorem dX4_raise_35 : decode cX4_raise 35 = .ok (.iload_n 1, 1) := by decide +kernel
theorem dX4_raise_36 : decode cX4_raise 36 = .ok (.iload_n 2, 1) := by decide +kernel
theorem dX4_raise_37 : decode cX4_raise 37 = .ok (.iastore, 1) := by decide +kernel
theorem dX4_raise_38 : decode cX4_raise 38 = .ok (.aload_n 0, 1) := by decide +kernel
theorem dX4_raise_39 : decode cX4_raise 39 = .ok (.iload_n 1, 1) := by decide +kernel
theorem dX4_raise_40 : decode cX4_raise 40 = .ok (.aload_n 3, 1) := by decide +kernel
theorem dX4_raise_41 : decode cX4_raise 41 = .ok (.invokevirtual 65, 3) := by decide +kernel
theorem dX4_raise_44 : decode cX4_raise 44 = .ok (.aload_n 3, 1) := by decide +kernel
theorem dX4_raise_45 : decode cX4_raise 45 = .ok (.arraylength, 1) := by decide +kernel
theorem dX4_raise_46 : decode cX4_raise 46 = .ok (.ireturn, 1) := by decide +kernel
theorem dX4_pour_0 : decode cX4_pour 0 = .ok (.aload_n 0, 1) := by decide +kernel
theorem dX4_pour_1 : decode cX4_pour 1 = .ok (.iload_n 1, 1) := by decide +kernel
theorem dX4_pour_2 : decode cX4_pour 2 = .ok (.invokevirtual 57, 3) := by decide +kernel
theorem dX4_pour_5 : decode cX4_pour 5 = .ok (.astore_n 2, 1) := by decide +kernel
theorem dX4_pour_6 : decode cX4_pour 6 = .ok (.aload_n 0, 1) := by decide +kernel
theorem dX4_pour_7 : decode cX4_pour 7 = .ok (.getfield 18, 3) := by decide +kernel
theorem dX4_pour_10 : decode cX4_pour 10 = .ok (.iload_n 1, 1) := by decide +kernel
theorem dX4_pour_11 : decode cX4_pour 11 = .ok (.bipush 11, 2) := by decide +kernel
theorem dX4_pour_13 : decode cX4_pour 13 = .ok (.iconst 0, 1) := by decide +kernel
theorem dX4_pour_14 : decode cX4_pour 14 = .ok (.multianewarray 16 2, 4) := by decide +kernel
theorem dX4_pour_18 : decode cX4_pour 18 = .ok (.aastore, 1) := by decide +kernel
theorem dX4_pour_19 : decode cX4_pour 19 = .ok (.aload_n 0, 1) := by decide +kernel
theorem dX4_pour_20 : decode cX4_pour 20 = .ok (.getfield 7, 3) := by decide +kernel
theorem dX4_pour_23 : decode cX4_pour 23 = .ok (.iload_n 1, 1) := by decide +kernel
theorem dX4_pour_24 : decode cX4_pour 24 = .ok (.iconst 0, 1) := by decide +kernel
theorem dX4_pour_25 : decode cX4_pour 25 = .ok (.iastore, 1) := by decide +kernel
theorem dX4_pour_26 : decode cX4_pour 26 = .ok (.aload_n 0, 1) := by decide +kernel
theorem dX4_pour_27 : decode cX4_pour 27 = .ok (.iconst 1, 1) := by decide +kernel
theorem dX4_pour_28 : decode cX4_pour 28 = .ok (.iload_n 1, 1) := by decide +kernel
theorem dX4_pour_29 : decode cX4_pour 29 = .ok (.isub, 1) := by decide +kernel
