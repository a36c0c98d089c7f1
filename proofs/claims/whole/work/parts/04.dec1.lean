theorem dX3_lies_42 : decode cX3_lies 42 = .ok (.ireturn, 1) := by decide +kernel
theorem dX3_bucketOf_0 : decode cX3_bucketOf 0 = .ok (.aload_n 0, 1) := by decide +kernel
theorem dX3_bucketOf_1 : decode cX3_bucketOf 1 = .ok (.iload_n 1, 1) := by decide +kernel
theorem dX3_bucketOf_2 : decode cX3_bucketOf 2 = .ok (.invokevirtual 31, 3) := by decide +kernel
theorem dX3_bucketOf_5 : decode cX3_bucketOf 5 = .ok (.astore_n 3, 1) := by decide +kernel
theorem dX3_bucketOf_6 : decode cX3_bucketOf 6 = .ok (.aload_n 3, 1) := by decide +kernel
theorem dX3_bucketOf_7 : decode cX3_bucketOf 7 = .ok (.iload_n 2, 1) := by decide +kernel
theorem dX3_bucketOf_8 : decode cX3_bucketOf 8 = .ok (.invokevirtual 35, 3) := by decide +kernel
theorem dX3_bucketOf_11 : decode cX3_bucketOf 11 = .ok (.ifCond .ne 13, 3) := by decide +kernel
theorem dX3_bucketOf_14 : decode cX3_bucketOf 14 = .ok (.new 39, 3) := by decide +kernel
theorem dX3_bucketOf_17 : decode cX3_bucketOf 17 = .ok (.dup, 1) := by decide +kernel
theorem dX3_bucketOf_18 : decode cX3_bucketOf 18 = .ok (.ldc 41, 2) := by decide +kernel
theorem dX3_bucketOf_20 : decode cX3_bucketOf 20 = .ok (.invokespecial 43, 3) := by decide +kernel
theorem dX3_bucketOf_23 : decode cX3_bucketOf 23 = .ok (.athrow, 1) := by decide +kernel
theorem dX3_bucketOf_24 : decode cX3_bucketOf 24 = .ok (.aload_n 3, 1) := by decide +kernel
theorem dX3_bucketOf_25 : decode cX3_bucketOf 25 = .ok (.iload_n 2, 1) := by decide +kernel
theorem dX3_bucketOf_26 : decode cX3_bucketOf 26 = .ok (.invokevirtual 82, 3) := by decide +kernel
theorem dX3_bucketOf_29 : decode cX3_bucketOf 29 = .ok (.ireturn, 1) := by decide +kernel
theorem dX3_about_0 : decode cX3_about 0 = .ok (.aload_n 0, 1) := by decide +kernel
theorem dX3_about_1 : decode cX3_about 1 = .ok (.iload_n 1, 1) := by decide +kernel
theorem dX3_about_2 : decode cX3_about 2 = .ok (.invokevirtual 31, 3) := by decide +kernel
theorem dX3_about_5 : decode cX3_about 5 = .ok (.astore_n 3, 1) := by decide +kernel
theorem dX3_about_6 : decode cX3_about 6 = .ok (.iload_n 2, 1) := by decide +kernel
theorem dX3_about_7 : decode cX3_about 7 = .ok (.tableswitch 67 0 5 #[37, 42, 47, 52, 57, 62], 37) := by decide +kernel
theorem dX3_about_44 : decode cX3_about 44 = .ok (.aload_n 3, 1) := by decide +kernel
theorem dX3_about_45 : decode cX3_about 45 = .ok (.invokevirtual 93, 3) := by decide +kernel
theorem dX3_about_48 : decode cX3_about 48 = .ok (.ireturn, 1) := by decide +kernel
theorem dX3_about_49 : decode cX3_about 49 = .ok (.aload_n 3, 1) := by decide +kernel
theorem dX3_about_50 : decode cX3_about 50 = .ok (.invokevirtual 66, 3) := by decide +kernel
theorem dX3_about_53 : decode cX3_about 53 = .ok (.ireturn, 1) := by decide +kernel
theorem dX3_about_54 : decode cX3_about 54 = .ok (.aload_n 3, 1) := by decide +kernel
theorem dX3_about_55 : decode cX3_about 55 = .ok (.invokevirtual 142, 3) := by decide +kernel
theorem dX3_about_58 : decode cX3_about 58 = .ok (.ireturn, 1) := by decide +kernel
theorem dX3_about_59 : decode cX3_about 59 = .ok (.aload_n 3, 1) := by decide +kernel
theorem dX3_about_60 : decode cX3_about 60 = .ok (.invokevirtual 145, 3) := by decide +kernel
theorem dX3_about_63 : decode cX3_about 63 = .ok (.ireturn, 1) := by decide +kernel
theorem dX3_about_64 : decode cX3_about 64 = .ok (.aload_n 3, 1) := by decide +kernel
theorem dX3_about_65 : decode cX3_about 65 = .ok (.invokevirtual 148, 3) := by decide +kernel
theorem dX3_about_68 : decode cX3_about 68 = .ok (.ireturn, 1) := by decide +kernel
theorem dX3_about_69 : decode cX3_about 69 = .ok (.aload_n 3, 1) := by decide +kernel
theorem dX3_about_70 : decode cX3_about 70 = .ok (.invokevirtual 151, 3) := by decide +kernel
theorem dX3_about_73 : decode cX3_about 73 = .ok (.ireturn, 1) := by decide +kernel
theorem dX3_about_74 : decode cX3_about 74 = .ok (.new 134, 3) := by decide +kernel
theorem dX3_about_77 : decode cX3_about 77 = .ok (.dup, 1) := by decide +kernel
theorem dX3_about_78 : decode cX3_about 78 = .ok (.ldc 154, 2) := by decide +kernel
theorem dX3_about_80 : decode cX3_about 80 = .ok (.invokespecial 138, 3) := by decide +kernel
theorem dX3_about_83 : decode cX3_about 83 = .ok (.athrow, 1) := by decide +kernel
theorem dX3_told_0 : decode cX3_told 0 = .ok (.aload_n 0, 1) := by decide +kernel
theorem dX3_told_1 : decode cX3_told 1 = .ok (.iload_n 1, 1) := by decide +kernel
theorem dX3_told_2 : decode cX3_told 2 = .ok (.invokevirtual 156, 3) := by decide +kernel
theorem dX3_told_5 : decode cX3_told 5 = .ok (.iload_n 2, 1) := by decide +kernel
theorem dX3_told_6 : decode cX3_told 6 = .ok (.tableswitch 84 0 4 #[34, 43, 52, 58, 67], 34) := by decide +kernel
theorem dX3_told_40 : decode cX3_told 40 = .ok (.aload_n 0, 1) := by decide +kernel
theorem dX3_told_41 : decode cX3_told 41 = .ok (.getfield 10, 3) := by decide +kernel
theorem dX3_told_44 : decode cX3_told 44 = .ok (.iload_n 1, 1) := by decide +kernel
theorem dX3_told_45 : decode cX3_told 45 = .ok (.invokevirtual 69, 3) := by decide +kernel
theorem dX3_told_48 : decode cX3_told 48 = .ok (.ireturn, 1) := by decide +kernel
theorem dX3_told_49 : decode cX3_told 49 = .ok (.aload_n 0, 1) := by decide +kernel
theorem dX3_told_50 : decode cX3_told 50 = .ok (.getfield 10, 3) := by decide +kernel
theorem dX3_told_53 : decode cX3_told 53 = .ok (.iload_n 1, 1) := by decide +kernel
theorem dX3_told_54 : decode cX3_told 54 = .ok (.invokevirtual 159, 3) := by decide +kernel
theorem dX3_told_57 : decode cX3_told 57 = .ok (.ireturn, 1) := by decide +kernel
theorem dX3_told_58 : decode cX3_told 58 = .ok (.aload_n 0, 1) := by decide +kernel
theorem dX3_told_59 : decode cX3_told 59 = .ok (.iload_n 1, 1) := by decide +kernel
theorem dX3_told_60 : decode cX3_told 60 = .ok (.invokevirtual 162, 3) := by decide +kernel
theorem dX3_told_63 : decode cX3_told 63 = .ok (.ireturn, 1) := by decide +kernel
theorem dX3_told_64 : decode cX3_told 64 = .ok (.aload_n 0, 1) := by decide +kernel
theorem dX3_told_65 : decode cX3_told 65 = .ok (.getfield 10, 3) := by decide +kernel
theorem dX3_told_68 : decode cX3_told 68 = .ok (.iload_n 1, 1) := by decide +kernel
theorem dX3_told_69 : decode cX3_told 69 = .ok (.invokevirtual 165, 3) := by decide +kernel
theorem dX3_told_72 : decode cX3_told 72 = .ok (.ireturn, 1) := by decide +kernel
theorem dX3_told_73 : decode cX3_told 73 = .ok (.aload_n 0, 1) := by decide +kernel
theorem dX3_told_74 : decode cX3_told 74 = .ok (.getfield 10, 3) := by decide +kernel
theorem dX3_told_77 : decode cX3_told 77 = .ok (.iload_n 1, 1) := by decide +kernel
theorem dX3_told_78 : decode cX3_told 78 = .ok (.invokevirtual 168, 3) := by decide +kernel
theorem dX3_told_81 : decode cX3_told 81 = .ok (.ifCond .eq 7, 3) := by decide +kernel
theorem dX3_told_84 : decode cX3_told 84 = .ok (.iconst 1, 1) := by decide +kernel
theorem dX3_told_85 : decode cX3_told 85 = .ok (.goto 4, 3) := by decide +kernel
theorem dX3_told_88 : decode cX3_told 88 = .ok (.iconst 0, 1) := by decide +kernel
theorem dX3_told_89 : decode cX3_told 89 = .ok (.ireturn, 1) := by decide +kernel
theorem dX3_told_90 : decode cX3_told 90 = .ok (.new 134, 3) := by decide +kernel
theorem dX3_told_93 : decode cX3_told 93 = .ok (.dup, 1) := by decide +kernel
theorem dX3_told_94 : decode cX3_told 94 = .ok (.ldc 171, 2) := by decide +kernel
theorem dX3_told_96 : decode cX3_told 96 = .ok (.invokespecial 138, 3) := by decide +kernel
theorem dX3_told_99 : decode cX3_told 99 = .ok (.athrow, 1) := by decide +kernel
theorem dX3_count_0 : decode cX3_count 0 = .ok (.iload_n 1, 1) := by decide +kernel
theorem dX3_count_1 : decode cX3_count 1 = .ok (.tableswitch 96 0 4 #[35, 43, 59, 75, 91], 35) := by decide +kernel
theorem dX3_count_36 : decode cX3_count 36 = .ok (.aload_n 0, 1) := by decide +kernel
theorem dX3_count_37 : decode cX3_count 37 = .ok (.getfield 10, 3) := by decide +kernel
theorem dX3_count_40 : decode cX3_count 40 = .ok (.invokevirtual 46, 3) := by decide +kernel
theorem dX3_count_43 : decode cX3_count 43 = .ok (.ireturn, 1) := by decide +kernel
theorem dX3_count_44 : decode cX3_count 44 = .ok (.aload_n 0, 1) := by decide +kernel
theorem dX3_count_45 : decode cX3_count 45 = .ok (.getfield 21, 3) := by decide +kernel
theorem dX3_count_48 : decode cX3_count 48 = .ok (.invokevirtual 93, 3) := by decide +kernel
theorem dX3_count_51 : decode cX3_count 51 = .ok (.aload_n 0, 1) := by decide +kernel
theorem dX3_count_52 : decode cX3_count 52 = .ok (.getfield 25, 3) := by decide +kernel
theorem dX3_count_55 : decode cX3_count 55 = .ok (.invokevirtual 93, 3) := by decide +kernel
theorem dX3_count_58 : decode cX3_count 58 = .ok (.iadd, 1) := by decide +kernel
theorem dX3_count_59 : decode cX3_count 59 = .ok (.ireturn, 1) := by decide +kernel
theorem dX3_count_60 : decode cX3_count 60 = .ok (.aload_n 0, 1) := by decide +kernel
theorem dX3_count_61 : decode cX3_count 61 = .ok (.getfield 21, 3) := by decide +kernel
theorem dX3_count_64 : decode cX3_count 64 = .ok (.invokevirtual 173, 3) := by decide +kernel
theorem dX3_count_67 : decode cX3_count 67 = .ok (.aload_n 0, 1) := by decide +kernel
theorem dX3_count_68 : decode cX3_count 68 = .ok (.getfield 25, 3) := by decide +kernel
theorem dX3_count_71 : decode cX3_count 71 = .ok (.invokevirtual 173, 3) := by decide +kernel
theorem dX3_count_74 : decode cX3_count 74 = .ok (.iadd, 1) := by decide +kernel
theorem dX3_count_75 : decode cX3_count 75 = .ok (.ireturn, 1) := by decide +kernel
theorem dX3_count_76 : decode cX3_count 76 = .ok (.aload_n 0, 1) := by decide +kernel
theorem dX3_count_77 : decode cX3_count 77 = .ok (.getfield 21, 3) := by decide +kernel
theorem dX3_count_80 : decode cX3_count 80 = .ok (.invokevirtual 148, 3) := by decide +kernel
theorem dX3_count_83 : decode cX3_count 83 = .ok (.aload_n 0, 1) := by decide +kernel
theorem dX3_count_84 : decode cX3_count 84 = .ok (.getfield 25, 3) := by decide +kernel
theorem dX3_count_87 : decode cX3_count 87 = .ok (.invokevirtual 148, 3) := by decide +kernel
theorem dX3_count_90 : decode cX3_count 90 = .ok (.iadd, 1) := by decide +kernel
theorem dX3_count_91 : decode cX3_count 91 = .ok (.ireturn, 1) := by decide +kernel
theorem dX3_count_92 : decode cX3_count 92 = .ok (.aload_n 0, 1) := by decide +kernel
theorem dX3_count_93 : decode cX3_count 93 = .ok (.getfield 89, 3) := by decide +kernel
theorem dX3_count_96 : decode cX3_count 96 = .ok (.ireturn, 1) := by decide +kernel
theorem dX3_count_97 : decode cX3_count 97 = .ok (.new 134, 3) := by decide +kernel
theorem dX3_count_100 : decode cX3_count 100 = .ok (.dup, 1) := by decide +kernel
theorem dX3_count_101 : decode cX3_count 101 = .ok (.ldc 176, 2) := by decide +kernel
theorem dX3_count_103 : decode cX3_count 103 = .ok (.invokespecial 138, 3) := by decide +kernel
theorem dX3_count_106 : decode cX3_count 106 = .ok (.athrow, 1) := by decide +kernel
theorem dX3_next_0 : decode cX3_next 0 = .ok (.aload_n 0, 1) := by decide +kernel
theorem dX3_next_1 : decode cX3_next 1 = .ok (.iload_n 1, 1) := by decide +kernel
theorem dX3_next_2 : decode cX3_next 2 = .ok (.invokevirtual 31, 3) := by decide +kernel
theorem dX3_next_5 : decode cX3_next 5 = .ok (.astore_n 3, 1) := by decide +kernel
theorem dX3_next_6 : decode cX3_next 6 = .ok (.iload_n 2, 1) := by decide +kernel
theorem dX3_next_7 : decode cX3_next 7 = .ok (.ifCond .lt 11, 3) := by decide +kernel
theorem dX3_next_10 : decode cX3_next 10 = .ok (.iload_n 2, 1) := by decide +kernel
theorem dX3_next_11 : decode cX3_next 11 = .ok (.aload_n 3, 1) := by decide +kernel
theorem dX3_next_12 : decode cX3_next 12 = .ok (.invokevirtual 93, 3) := by decide +kernel
theorem dX3_next_15 : decode cX3_next 15 = .ok (.if_icmp .lt 13, 3) := by decide +kernel
theorem dX3_next_18 : decode cX3_next 18 = .ok (.new 134, 3) := by decide +kernel
theorem dX3_next_21 : decode cX3_next 21 = .ok (.dup, 1) := by decide +kernel
theorem dX3_next_22 : decode cX3_next 22 = .ok (.ldc 178, 2) := by decide +kernel
theorem dX3_next_24 : decode cX3_next 24 = .ok (.invokespecial 138, 3) := by decide +kernel
theorem dX3_next_27 : decode cX3_next 27 = .ok (.athrow, 1) := by decide +kernel
theorem dX3_next_28 : decode cX3_next 28 = .ok (.aload_n 0, 1) := by decide +kernel
theorem dX3_next_29 : decode cX3_next 29 = .ok (.getfield 28, 3) := by decide +kernel
theorem dX3_next_32 : decode cX3_next 32 = .ok (.aload_n 3, 1) := by decide +kernel
theorem dX3_next_33 : decode cX3_next 33 = .ok (.invokevirtual 180, 3) := by decide +kernel
theorem dX3_next_36 : decode cX3_next 36 = .ok (.aload_n 0, 1) := by decide +kernel
theorem dX3_next_37 : decode cX3_next 37 = .ok (.getfield 28, 3) := by decide +kernel
theorem dX3_next_40 : decode cX3_next 40 = .ok (.iload_n 2, 1) := by decide +kernel
theorem dX3_next_41 : decode cX3_next 41 = .ok (.invokevirtual 184, 3) := by decide +kernel
theorem dX3_next_44 : decode cX3_next 44 = .ok (.aload_n 0, 1) := by decide +kernel
theorem dX3_next_45 : decode cX3_next 45 = .ok (.getfield 28, 3) := by decide +kernel
theorem dX3_next_48 : decode cX3_next 48 = .ok (.invokevirtual 98, 3) := by decide +kernel
theorem dX3_next_51 : decode cX3_next 51 = .ok (.ireturn, 1) := by decide +kernel
theorem dX3_moves_0 : decode cX3_moves 0 = .ok (.aload_n 0, 1) := by decide +kernel
theorem dX3_moves_1 : decode cX3_moves 1 = .ok (.iload_n 1, 1) := by decide +kernel
theorem dX3_moves_2 : decode cX3_moves 2 = .ok (.invokevirtual 31, 3) := by decide +kernel
theorem dX3_moves_5 : decode cX3_moves 5 = .ok (.astore_n 3, 1) := by decide +kernel
theorem dX3_moves_6 : decode cX3_moves 6 = .ok (.iload_n 2, 1) := by decide +kernel
theorem dX3_moves_7 : decode cX3_moves 7 = .ok (.ifCond .lt 11, 3) := by decide +kernel
theorem dX3_moves_10 : decode cX3_moves 10 = .ok (.iload_n 2, 1) := by decide +kernel
theorem dX3_moves_11 : decode cX3_moves 11 = .ok (.aload_n 3, 1) := by decide +kernel
theorem dX3_moves_12 : decode cX3_moves 12 = .ok (.invokevirtual 93, 3) := by decide +kernel
theorem dX3_moves_15 : decode cX3_moves 15 = .ok (.if_icmp .le 13, 3) := by decide +kernel
theorem dX3_moves_18 : decode cX3_moves 18 = .ok (.new 39, 3) := by decide +kernel
theorem dX3_moves_21 : decode cX3_moves 21 = .ok (.dup, 1) := by decide +kernel
theorem dX3_moves_22 : decode cX3_moves 22 = .ok (.ldc 187, 2) := by decide +kernel
theorem dX3_moves_24 : decode cX3_moves 24 = .ok (.invokespecial 43, 3) := by decide +kernel
theorem dX3_moves_27 : decode cX3_moves 27 = .ok (.athrow, 1) := by decide +kernel
theorem dX3_moves_28 : decode cX3_moves 28 = .ok (.aload_n 0, 1) := by decide +kernel
theorem dX3_moves_29 : decode cX3_moves 29 = .ok (.getfield 28, 3) := by decide +kernel
theorem dX3_moves_32 : decode cX3_moves 32 = .ok (.aload_n 3, 1) := by decide +kernel
theorem dX3_moves_33 : decode cX3_moves 33 = .ok (.invokevirtual 180, 3) := by decide +kernel
theorem dX3_moves_36 : decode cX3_moves 36 = .ok (.aload_n 0, 1) := by decide +kernel
theorem dX3_moves_37 : decode cX3_moves 37 = .ok (.getfield 28, 3) := by decide +kernel
theorem dX3_moves_40 : decode cX3_moves 40 = .ok (.iload_n 2, 1) := by decide +kernel
theorem dX3_moves_41 : decode cX3_moves 41 = .ok (.invokevirtual 184, 3) := by decide +kernel
theorem dX3_moves_44 : decode cX3_moves 44 = .ok (.aload_n 0, 1) := by decide +kernel
theorem dX3_moves_45 : decode cX3_moves 45 = .ok (.getfield 28, 3) := by decide +kernel
theorem dX3_moves_48 : decode cX3_moves 48 = .ok (.invokevirtual 173, 3) := by decide +kernel
theorem dX3_moves_51 : decode cX3_moves 51 = .ok (.ireturn, 1) := by decide +kernel
theorem dX3_highest_0 : decode cX3_highest 0 = .ok (.aload_n 0, 1) := by decide +kernel
theorem dX3_highest_1 : decode cX3_highest 1 = .ok (.iload_n 1, 1) := by decide +kernel
theorem dX3_highest_2 : decode cX3_highest 2 = .ok (.invokevirtual 31, 3) := by decide +kernel
theorem dX3_highest_5 : decode cX3_highest 5 = .ok (.invokevirtual 101, 3) := by decide +kernel
theorem dX3_highest_8 : decode cX3_highest 8 = .ok (.ireturn, 1) := by decide +kernel
theorem dX3_advise_0 : decode cX3_advise 0 = .ok (.aload_n 0, 1) := by decide +kernel
theorem dX3_advise_1 : decode cX3_advise 1 = .ok (.iload_n 1, 1) := by decide +kernel
theorem dX3_advise_2 : decode cX3_advise 2 = .ok (.invokevirtual 31, 3) := by decide +kernel
theorem dX3_advise_5 : decode cX3_advise 5 = .ok (.astore_n 2, 1) := by decide +kernel
theorem dX3_advise_6 : decode cX3_advise 6 = .ok (.iconst (-1), 1) := by decide +kernel
theorem dX3_advise_7 : decode cX3_advise 7 = .ok (.istore_n 3, 1) := by decide +kernel
theorem dX3_advise_8 : decode cX3_advise 8 = .ok (.iconst 0, 1) := by decide +kernel
theorem dX3_advise_9 : decode cX3_advise 9 = .ok (.istore 4, 2) := by decide +kernel
theorem dX3_advise_11 : decode cX3_advise 11 = .ok (.iconst 0, 1) := by decide +kernel
theorem dX3_advise_12 : decode cX3_advise 12 = .ok (.istore 5, 2) := by decide +kernel
theorem dX3_advise_14 : decode cX3_advise 14 = .ok (.iload 5, 2) := by decide +kernel
theorem dX3_advise_16 : decode cX3_advise 16 = .ok (.aload_n 0, 1) := by decide +kernel
theorem dX3_advise_17 : decode cX3_advise 17 = .ok (.getfield 10, 3) := by decide +kernel
theorem dX3_advise_20 : decode cX3_advise 20 = .ok (.invokevirtual 46, 3) := by decide +kernel
theorem dX3_advise_23 : decode cX3_advise 23 = .ok (.if_icmp .ge 82, 3) := by decide +kernel
theorem dX3_advise_26 : decode cX3_advise 26 = .ok (.aload_n 0, 1) := by decide +kernel
theorem dX3_advise_27 : decode cX3_advise 27 = .ok (.getfield 10, 3) := by decide +kernel
theorem dX3_advise_30 : decode cX3_advise 30 = .ok (.iload 5, 2) := by decide +kernel
theorem dX3_advise_32 : decode cX3_advise 32 = .ok (.invokevirtual 159, 3) := by decide +kernel
theorem dX3_advise_35 : decode cX3_advise 35 = .ok (.iload_n 1, 1) := by decide +kernel
theorem dX3_advise_36 : decode cX3_advise 36 = .ok (.if_icmp .ne 63, 3) := by decide +kernel
theorem dX3_advise_39 : decode cX3_advise 39 = .ok (.aload_n 0, 1) := by decide +kernel
theorem dX3_advise_40 : decode cX3_advise 40 = .ok (.getfield 28, 3) := by decide +kernel
theorem dX3_advise_43 : decode cX3_advise 43 = .ok (.aload_n 2, 1) := by decide +kernel
theorem dX3_advise_44 : decode cX3_advise 44 = .ok (.invokevirtual 180, 3) := by decide +kernel
theorem dX3_advise_47 : decode cX3_advise 47 = .ok (.aload_n 0, 1) := by decide +kernel
theorem dX3_advise_48 : decode cX3_advise 48 = .ok (.getfield 28, 3) := by decide +kernel
theorem dX3_advise_51 : decode cX3_advise 51 = .ok (.iload 5, 2) := by decide +kernel
theorem dX3_advise_53 : decode cX3_advise 53 = .ok (.invokevirtual 75, 3) := by decide +kernel
theorem dX3_advise_56 : decode cX3_advise 56 = .ok (.aload_n 0, 1) := by decide +kernel
theorem dX3_advise_57 : decode cX3_advise 57 = .ok (.getfield 28, 3) := by decide +kernel
theorem dX3_advise_60 : decode cX3_advise 60 = .ok (.aload_n 0, 1) := by decide +kernel
theorem dX3_advise_61 : decode cX3_advise 61 = .ok (.getfield 28, 3) := by decide +kernel
theorem dX3_advise_64 : decode cX3_advise 64 = .ok (.invokevirtual 93, 3) := by decide +kernel
theorem dX3_advise_67 : decode cX3_advise 67 = .ok (.invokevirtual 184, 3) := by decide +kernel
theorem dX3_advise_70 : decode cX3_advise 70 = .ok (.iload_n 3, 1) := by decide +kernel
theorem dX3_advise_71 : decode cX3_advise 71 = .ok (.iconst (-1), 1) := by decide +kernel
theorem dX3_advise_72 : decode cX3_advise 72 = .ok (.if_icmp .eq 15, 3) := by decide +kernel
theorem dX3_advise_75 : decode cX3_advise 75 = .ok (.aload_n 0, 1) := by decide +kernel
theorem dX3_advise_76 : decode cX3_advise 76 = .ok (.getfield 28, 3) := by decide +kernel
theorem dX3_advise_79 : decode cX3_advise 79 = .ok (.invokevirtual 173, 3) := by decide +kernel
theorem dX3_advise_82 : decode cX3_advise 82 = .ok (.iload 4, 2) := by decide +kernel
theorem dX3_advise_84 : decode cX3_advise 84 = .ok (.if_icmp .ge 15, 3) := by decide +kernel
theorem dX3_advise_87 : decode cX3_advise 87 = .ok (.iload 5, 2) := by decide +kernel
theorem dX3_advise_89 : decode cX3_advise 89 = .ok (.istore_n 3, 1) := by decide +kernel
theorem dX3_advise_90 : decode cX3_advise 90 = .ok (.aload_n 0, 1) := by decide +kernel
theorem dX3_advise_91 : decode cX3_advise 91 = .ok (.getfield 28, 3) := by decide +kernel
theorem dX3_advise_94 : decode cX3_advise 94 = .ok (.invokevirtual 173, 3) := by decide +kernel
theorem dX3_advise_97 : decode cX3_advise 97 = .ok (.istore 4, 2) := by decide +kernel
theorem dX3_advise_99 : decode cX3_advise 99 = .ok (.iinc 5 1, 3) := by decide +kernel
theorem dX3_advise_102 : decode cX3_advise 102 = .ok (.goto (-88), 3) := by decide +kernel
theorem dX3_advise_105 : decode cX3_advise 105 = .ok (.iload_n 3, 1) := by decide +kernel
theorem dX3_advise_106 : decode cX3_advise 106 = .ok (.ireturn, 1) := by decide +kernel
theorem dX3_mean_0 : decode cX3_mean 0 = .ok (.aload_n 0, 1) := by decide +kernel
theorem dX3_mean_1 : decode cX3_mean 1 = .ok (.getfield 21, 3) := by decide +kernel
theorem dX3_mean_4 : decode cX3_mean 4 = .ok (.invokevirtual 93, 3) := by decide +kernel
theorem dX3_mean_7 : decode cX3_mean 7 = .ok (.aload_n 0, 1) := by decide +kernel
theorem dX3_mean_8 : decode cX3_mean 8 = .ok (.getfield 25, 3) := by decide +kernel
theorem dX3_mean_11 : decode cX3_mean 11 = .ok (.invokevirtual 93, 3) := by decide +kernel
theorem dX3_mean_14 : decode cX3_mean 14 = .ok (.iadd, 1) := by decide +kernel
theorem dX3_mean_15 : decode cX3_mean 15 = .ok (.istore_n 1, 1) := by decide +kernel
theorem dX3_mean_16 : decode cX3_mean 16 = .ok (.iload_n 1, 1) := by decide +kernel
theorem dX3_mean_17 : decode cX3_mean 17 = .ok (.ifCond .ne 5, 3) := by decide +kernel
theorem dX3_mean_20 : decode cX3_mean 20 = .ok (.dconst 0, 1) := by decide +kernel
theorem dX3_mean_21 : decode cX3_mean 21 = .ok (.dreturn, 1) := by decide +kernel
theorem dX3_mean_22 : decode cX3_mean 22 = .ok (.aload_n 0, 1) := by decide +kernel
theorem dX3_mean_23 : decode cX3_mean 23 = .ok (.getfield 21, 3) := by decide +kernel
theorem dX3_mean_26 : decode cX3_mean 26 = .ok (.invokevirtual 189, 3) := by decide +kernel
theorem dX3_mean_29 : decode cX3_mean 29 = .ok (.aload_n 0, 1) := by decide +kernel
theorem dX3_mean_30 : decode cX3_mean 30 = .ok (.getfield 25, 3) := by decide +kernel
theorem dX3_mean_33 : decode cX3_mean 33 = .ok (.invokevirtual 189, 3) := by decide +kernel
theorem dX3_mean_36 : decode cX3_mean 36 = .ok (.iadd, 1) := by decide +kernel
theorem dX3_mean_37 : decode cX3_mean 37 = .ok (.i2d, 1) := by decide +kernel
theorem dX3_mean_38 : decode cX3_mean 38 = .ok (.iload_n 1, 1) := by decide +kernel
theorem dX3_mean_39 : decode cX3_mean 39 = .ok (.i2d, 1) := by decide +kernel
theorem dX3_mean_40 : decode cX3_mean 40 = .ok (.ddiv, 1) := by decide +kernel
theorem dX3_mean_41 : decode cX3_mean 41 = .ok (.dreturn, 1) := by decide +kernel
theorem dX3_digest_0 : decode cX3_digest 0 = .ok (.ldc2_w 192, 3) := by decide +kernel
theorem dX3_digest_3 : decode cX3_digest 3 = .ok (.lstore_n 1, 1) := by decide +kernel
theorem dX3_digest_4 : decode cX3_digest 4 = .ok (.iconst 0, 1) := by decide +kernel
theorem dX3_digest_5 : decode cX3_digest 5 = .ok (.istore_n 3, 1) := by decide +kernel
theorem dX3_digest_6 : decode cX3_digest 6 = .ok (.iload_n 3, 1) := by decide +kernel
theorem dX3_digest_7 : decode cX3_digest 7 = .ok (.iconst 5, 1) := by decide +kernel
theorem dX3_digest_8 : decode cX3_digest 8 = .ok (.if_icmp .ge 19, 3) := by decide +kernel
theorem dX3_digest_11 : decode cX3_digest 11 = .ok (.lload_n 1, 1) := by decide +kernel
theorem dX3_digest_12 : decode cX3_digest 12 = .ok (.aload_n 0, 1) := by decide +kernel
theorem dX3_digest_13 : decode cX3_digest 13 = .ok (.iload_n 3, 1) := by decide +kernel
theorem dX3_digest_14 : decode cX3_digest 14 = .ok (.invokevirtual 194, 3) := by decide +kernel
theorem dX3_digest_17 : decode cX3_digest 17 = .ok (.invokestatic 197, 3) := by decide +kernel
theorem dX3_digest_20 : decode cX3_digest 20 = .ok (.lstore_n 1, 1) := by decide +kernel
theorem dX3_digest_21 : decode cX3_digest 21 = .ok (.iinc 3 1, 3) := by decide +kernel
theorem dX3_digest_24 : decode cX3_digest 24 = .ok (.goto (-18), 3) := by decide +kernel
theorem dX3_digest_27 : decode cX3_digest 27 = .ok (.iconst 0, 1) := by decide +kernel
theorem dX3_digest_28 : decode cX3_digest 28 = .ok (.istore_n 3, 1) := by decide +kernel
theorem dX3_digest_29 : decode cX3_digest 29 = .ok (.iload_n 3, 1) := by decide +kernel
theorem dX3_digest_30 : decode cX3_digest 30 = .ok (.iconst 2, 1) := by decide +kernel
theorem dX3_digest_31 : decode cX3_digest 31 = .ok (.if_icmp .ge 16, 3) := by decide +kernel
theorem dX3_digest_34 : decode cX3_digest 34 = .ok (.aload_n 0, 1) := by decide +kernel
theorem dX3_digest_35 : decode cX3_digest 35 = .ok (.lload_n 1, 1) := by decide +kernel
theorem dX3_digest_36 : decode cX3_digest 36 = .ok (.iload_n 3, 1) := by decide +kernel
theorem dX3_digest_37 : decode cX3_digest 37 = .ok (.invokevirtual 201, 3) := by decide +kernel
theorem dX3_digest_40 : decode cX3_digest 40 = .ok (.lstore_n 1, 1) := by decide +kernel
theorem dX3_digest_41 : decode cX3_digest 41 = .ok (.iinc 3 1, 3) := by decide +kernel
theorem dX3_digest_44 : decode cX3_digest 44 = .ok (.goto (-15), 3) := by decide +kernel
theorem dX3_digest_47 : decode cX3_digest 47 = .ok (.iconst 0, 1) := by decide +kernel
theorem dX3_digest_48 : decode cX3_digest 48 = .ok (.istore_n 3, 1) := by decide +kernel
theorem dX3_digest_49 : decode cX3_digest 49 = .ok (.iload_n 3, 1) := by decide +kernel
theorem dX3_digest_50 : decode cX3_digest 50 = .ok (.aload_n 0, 1) := by decide +kernel
theorem dX3_digest_51 : decode cX3_digest 51 = .ok (.getfield 10, 3) := by decide +kernel
theorem dX3_digest_54 : decode cX3_digest 54 = .ok (.invokevirtual 46, 3) := by decide +kernel
theorem dX3_digest_57 : decode cX3_digest 57 = .ok (.if_icmp .ge 36, 3) := by decide +kernel
theorem dX3_digest_60 : decode cX3_digest 60 = .ok (.iconst 0, 1) := by decide +kernel
theorem dX3_digest_61 : decode cX3_digest 61 = .ok (.istore 4, 2) := by decide +kernel
theorem dX3_digest_63 : decode cX3_digest 63 = .ok (.iload 4, 2) := by decide +kernel
theorem dX3_digest_65 : decode cX3_digest 65 = .ok (.iconst 5, 1) := by decide +kernel
theorem dX3_digest_66 : decode cX3_digest 66 = .ok (.if_icmp .ge 21, 3) := by decide +kernel
theorem dX3_digest_69 : decode cX3_digest 69 = .ok (.lload_n 1, 1) := by decide +kernel
theorem dX3_digest_70 : decode cX3_digest 70 = .ok (.aload_n 0, 1) := by decide +kernel
theorem dX3_digest_71 : decode cX3_digest 71 = .ok (.iload_n 3, 1) := by decide +kernel
theorem dX3_digest_72 : decode cX3_digest 72 = .ok (.iload 4, 2) := by decide +kernel
theorem dX3_digest_74 : decode cX3_digest 74 = .ok (.invokevirtual 204, 3) := by decide +kernel
theorem dX3_digest_77 : decode cX3_digest 77 = .ok (.invokestatic 197, 3) := by decide +kernel
theorem dX3_digest_80 : decode cX3_digest 80 = .ok (.lstore_n 1, 1) := by decide +kernel
theorem dX3_digest_81 : decode cX3_digest 81 = .ok (.iinc 4 1, 3) := by decide +kernel
theorem dX3_digest_84 : decode cX3_digest 84 = .ok (.goto (-21), 3) := by decide +kernel
theorem dX3_digest_87 : decode cX3_digest 87 = .ok (.iinc 3 1, 3) := by decide +kernel
theorem dX3_digest_90 : decode cX3_digest 90 = .ok (.goto (-41), 3) := by decide +kernel
theorem dX3_digest_93 : decode cX3_digest 93 = .ok (.lload_n 1, 1) := by decide +kernel
theorem dX3_digest_94 : decode cX3_digest 94 = .ok (.lreturn, 1) := by decide +kernel
theorem dX3_joinedHearth_0 : decode cX3_joinedHearth 0 = .ok (.lload_n 1, 1) := by decide +kernel
theorem dX3_joinedHearth_1 : decode cX3_joinedHearth 1 = .ok (.lstore 4, 2) := by decide +kernel
theorem dX3_joinedHearth_3 : decode cX3_joinedHearth 3 = .ok (.iconst 0, 1) := by decide +kernel
theorem dX3_joinedHearth_4 : decode cX3_joinedHearth 4 = .ok (.istore 6, 2) := by decide +kernel
theorem dX3_joinedHearth_6 : decode cX3_joinedHearth 6 = .ok (.iload 6, 2) := by decide +kernel
theorem dX3_joinedHearth_8 : decode cX3_joinedHearth 8 = .ok (.bipush 6, 2) := by decide +kernel
theorem dX3_joinedHearth_10 : decode cX3_joinedHearth 10 = .ok (.if_icmp .ge 23, 3) := by decide +kernel
theorem dX3_joinedHearth_13 : decode cX3_joinedHearth 13 = .ok (.lload 4, 2) := by decide +kernel
theorem dX3_joinedHearth_15 : decode cX3_joinedHearth 15 = .ok (.aload_n 0, 1) := by decide +kernel
theorem dX3_joinedHearth_16 : decode cX3_joinedHearth 16 = .ok (.iload_n 3, 1) := by decide +kernel
theorem dX3_joinedHearth_17 : decode cX3_joinedHearth 17 = .ok (.iload 6, 2) := by decide +kernel
theorem dX3_joinedHearth_19 : decode cX3_joinedHearth 19 = .ok (.invokevirtual 207, 3) := by decide +kernel
theorem dX3_joinedHearth_22 : decode cX3_joinedHearth 22 = .ok (.invokestatic 197, 3) := by decide +kernel
theorem dX3_joinedHearth_25 : decode cX3_joinedHearth 25 = .ok (.lstore 4, 2) := by decide +kernel
theorem dX3_joinedHearth_27 : decode cX3_joinedHearth 27 = .ok (.iinc 6 1, 3) := by decide +kernel
theorem dX3_joinedHearth_30 : decode cX3_joinedHearth 30 = .ok (.goto (-24), 3) := by decide +kernel
theorem dX3_joinedHearth_33 : decode cX3_joinedHearth 33 = .ok (.aload_n 0, 1) := by decide +kernel
theorem dX3_joinedHearth_34 : decode cX3_joinedHearth 34 = .ok (.iload_n 3, 1) := by decide +kernel
theorem dX3_joinedHearth_35 : decode cX3_joinedHearth 35 = .ok (.invokevirtual 31, 3) := by decide +kernel
theorem dX3_joinedHearth_38 : decode cX3_joinedHearth 38 = .ok (.astore 6, 2) := by decide +kernel
theorem dX3_joinedHearth_40 : decode cX3_joinedHearth 40 = .ok (.iconst 0, 1) := by decide +kernel
theorem dX3_joinedHearth_41 : decode cX3_joinedHearth 41 = .ok (.istore 7, 2) := by decide +kernel
theorem dX3_joinedHearth_43 : decode cX3_joinedHearth 43 = .ok (.iload 7, 2) := by decide +kernel
theorem dX3_joinedHearth_45 : decode cX3_joinedHearth 45 = .ok (.bipush 11, 2) := by decide +kernel
theorem dX3_joinedHearth_47 : decode cX3_joinedHearth 47 = .ok (.if_icmp .ge 59, 3) := by decide +kernel
theorem dX3_joinedHearth_50 : decode cX3_joinedHearth 50 = .ok (.aload 6, 2) := by decide +kernel
theorem dX3_joinedHearth_52 : decode cX3_joinedHearth 52 = .ok (.iload 7, 2) := by decide +kernel
theorem dX3_joinedHearth_54 : decode cX3_joinedHearth 54 = .ok (.invokevirtual 131, 3) := by decide +kernel
theorem dX3_joinedHearth_57 : decode cX3_joinedHearth 57 = .ok (.istore 8, 2) := by decide +kernel
theorem dX3_joinedHearth_59 : decode cX3_joinedHearth 59 = .ok (.lload 4, 2) := by decide +kernel
theorem dX3_joinedHearth_61 : decode cX3_joinedHearth 61 = .ok (.iload 8, 2) := by decide +kernel
theorem dX3_joinedHearth_63 : decode cX3_joinedHearth 63 = .ok (.invokestatic 197, 3) := by decide +kernel
theorem dX3_joinedHearth_66 : decode cX3_joinedHearth 66 = .ok (.lstore 4, 2) := by decide +kernel
theorem dX3_joinedHearth_68 : decode cX3_joinedHearth 68 = .ok (.iconst 0, 1) := by decide +kernel
theorem dX3_joinedHearth_69 : decode cX3_joinedHearth 69 = .ok (.istore 9, 2) := by decide +kernel
theorem dX3_joinedHearth_71 : decode cX3_joinedHearth 71 = .ok (.iload 9, 2) := by decide +kernel
theorem dX3_joinedHearth_73 : decode cX3_joinedHearth 73 = .ok (.iload 8, 2) := by decide +kernel
theorem dX3_joinedHearth_75 : decode cX3_joinedHearth 75 = .ok (.if_icmp .ge 25, 3) := by decide +kernel
theorem dX3_joinedHearth_78 : decode cX3_joinedHearth 78 = .ok (.lload 4, 2) := by decide +kernel
theorem dX3_joinedHearth_80 : decode cX3_joinedHearth 80 = .ok (.aload 6, 2) := by decide +kernel
theorem dX3_joinedHearth_82 : decode cX3_joinedHearth 82 = .ok (.iload 7, 2) := by decide +kernel
theorem dX3_joinedHearth_84 : decode cX3_joinedHearth 84 = .ok (.iload 9, 2) := by decide +kernel
theorem dX3_joinedHearth_86 : decode cX3_joinedHearth 86 = .ok (.invokevirtual 139, 3) := by decide +kernel
theorem dX3_joinedHearth_89 : decode cX3_joinedHearth 89 = .ok (.invokestatic 197, 3) := by decide +kernel
theorem dX3_joinedHearth_92 : decode cX3_joinedHearth 92 = .ok (.lstore 4, 2) := by decide +kernel
theorem dX3_joinedHearth_94 : decode cX3_joinedHearth 94 = .ok (.iinc 9 1, 3) := by decide +kernel
theorem dX3_joinedHearth_97 : decode cX3_joinedHearth 97 = .ok (.goto (-26), 3) := by decide +kernel
theorem dX3_joinedHearth_100 : decode cX3_joinedHearth 100 = .ok (.iinc 7 1, 3) := by decide +kernel
theorem dX3_joinedHearth_103 : decode cX3_joinedHearth 103 = .ok (.goto (-60), 3) := by decide +kernel
theorem dX3_joinedHearth_106 : decode cX3_joinedHearth 106 = .ok (.lload 4, 2) := by decide +kernel
theorem dX3_joinedHearth_108 : decode cX3_joinedHearth 108 = .ok (.lreturn, 1) := by decide +kernel
theorem dX3_joined_0 : decode cX3_joined 0 = .ok (.lload_n 0, 1) := by decide +kernel
theorem dX3_joined_1 : decode cX3_joined 1 = .ok (.ldc2_w 210, 3) := by decide +kernel
theorem dX3_joined_4 : decode cX3_joined 4 = .ok (.lmul, 1) := by decide +kernel
theorem dX3_joined_5 : decode cX3_joined 5 = .ok (.iload_n 2, 1) := by decide +kernel
theorem dX3_joined_6 : decode cX3_joined 6 = .ok (.i2l, 1) := by decide +kernel
theorem dX3_joined_7 : decode cX3_joined 7 = .ok (.ladd, 1) := by decide +kernel
theorem dX3_joined_8 : decode cX3_joined 8 = .ok (.lreturn, 1) := by decide +kernel
theorem dX3_bucketWith_0 : decode cX3_bucketWith 0 = .ok (.aload_n 0, 1) := by decide +kernel
theorem dX3_bucketWith_1 : decode cX3_bucketWith 1 = .ok (.getfield 10, 3) := by decide +kernel
theorem dX3_bucketWith_4 : decode cX3_bucketWith 4 = .ok (.iload_n 1, 1) := by decide +kernel
theorem dX3_bucketWith_5 : decode cX3_bucketWith 5 = .ok (.invokevirtual 159, 3) := by decide +kernel
theorem dX3_bucketWith_8 : decode cX3_bucketWith 8 = .ok (.istore_n 2, 1) := by decide +kernel
theorem dX3_bucketWith_9 : decode cX3_bucketWith 9 = .ok (.iload_n 2, 1) := by decide +kernel
theorem dX3_bucketWith_10 : decode cX3_bucketWith 10 = .ok (.iconst (-1), 1) := by decide +kernel
theorem dX3_bucketWith_11 : decode cX3_bucketWith 11 = .ok (.if_icmp .ne 7, 3) := by decide +kernel
theorem dX3_bucketWith_14 : decode cX3_bucketWith 14 = .ok (.iconst (-1), 1) := by decide +kernel
theorem dX3_bucketWith_15 : decode cX3_bucketWith 15 = .ok (.goto 19, 3) := by decide +kernel
theorem dX3_bucketWith_18 : decode cX3_bucketWith 18 = .ok (.aload_n 0, 1) := by decide +kernel
theorem dX3_bucketWith_19 : decode cX3_bucketWith 19 = .ok (.iload_n 2, 1) := by decide +kernel
theorem dX3_bucketWith_20 : decode cX3_bucketWith 20 = .ok (.invokevirtual 31, 3) := by decide +kernel
theorem dX3_bucketWith_23 : decode cX3_bucketWith 23 = .ok (.aload_n 0, 1) := by decide +kernel
theorem dX3_bucketWith_24 : decode cX3_bucketWith 24 = .ok (.getfield 10, 3) := by decide +kernel
theorem dX3_bucketWith_27 : decode cX3_bucketWith 27 = .ok (.iload_n 1, 1) := by decide +kernel
theorem dX3_bucketWith_28 : decode cX3_bucketWith 28 = .ok (.invokevirtual 69, 3) := by decide +kernel
theorem dX3_bucketWith_31 : decode cX3_bucketWith 31 = .ok (.invokevirtual 82, 3) := by decide +kernel
theorem dX3_bucketWith_34 : decode cX3_bucketWith 34 = .ok (.ireturn, 1) := by decide +kernel
theorem dX3_hearthOf_0 : decode cX3_hearthOf 0 = .ok (.iload_n 1, 1) := by decide +kernel
theorem dX3_hearthOf_1 : decode cX3_hearthOf 1 = .ok (.ifCond .lt 8, 3) := by decide +kernel
theorem dX3_hearthOf_4 : decode cX3_hearthOf 4 = .ok (.iload_n 1, 1) := by decide +kernel
theorem dX3_hearthOf_5 : decode cX3_hearthOf 5 = .ok (.iconst 2, 1) := by decide +kernel
theorem dX3_hearthOf_6 : decode cX3_hearthOf 6 = .ok (.if_icmp .lt 13, 3) := by decide +kernel
theorem dX3_hearthOf_9 : decode cX3_hearthOf 9 = .ok (.new 134, 3) := by decide +kernel
theorem dX3_hearthOf_12 : decode cX3_hearthOf 12 = .ok (.dup, 1) := by decide +kernel
theorem dX3_hearthOf_13 : decode cX3_hearthOf 13 = .ok (.ldc 212, 2) := by decide +kernel
theorem dX3_hearthOf_15 : decode cX3_hearthOf 15 = .ok (.invokespecial 138, 3) := by decide +kernel
theorem dX3_hearthOf_18 : decode cX3_hearthOf 18 = .ok (.athrow, 1) := by decide +kernel
theorem dX3_hearthOf_19 : decode cX3_hearthOf 19 = .ok (.iload_n 1, 1) := by decide +kernel
theorem dX3_hearthOf_20 : decode cX3_hearthOf 20 = .ok (.ifCond .ne 10, 3) := by decide +kernel
theorem dX3_hearthOf_23 : decode cX3_hearthOf 23 = .ok (.aload_n 0, 1) := by decide +kernel
theorem dX3_hearthOf_24 : decode cX3_hearthOf 24 = .ok (.getfield 21, 3) := by decide +kernel
theorem dX3_hearthOf_27 : decode cX3_hearthOf 27 = .ok (.goto 7, 3) := by decide +kernel
theorem dX3_hearthOf_30 : decode cX3_hearthOf 30 = .ok (.aload_n 0, 1) := by decide +kernel
theorem dX3_hearthOf_31 : decode cX3_hearthOf 31 = .ok (.getfield 25, 3) := by decide +kernel
theorem dX3_hearthOf_34 : decode cX3_hearthOf 34 = .ok (.areturn, 1) := by decide +kernel
theorem dX3_homeOfBurning_0 : decode cX3_homeOfBurning 0 = .ok (.aload_n 0, 1) := by decide +kernel
theorem dX3_homeOfBurning_1 : decode cX3_homeOfBurning 1 = .ok (.iload_n 1, 1) := by decide +kernel
theorem dX3_homeOfBurning_2 : decode cX3_homeOfBurning 2 = .ok (.invokevirtual 156, 3) := by decide +kernel
theorem dX3_homeOfBurning_5 : decode cX3_homeOfBurning 5 = .ok (.aload_n 0, 1) := by decide +kernel
theorem dX3_homeOfBurning_6 : decode cX3_homeOfBurning 6 = .ok (.getfield 10, 3) := by decide +kernel
theorem dX3_homeOfBurning_9 : decode cX3_homeOfBurning 9 = .ok (.iload_n 1, 1) := by decide +kernel
theorem dX3_homeOfBurning_10 : decode cX3_homeOfBurning 10 = .ok (.invokevirtual 159, 3) := by decide +kernel
theorem dX3_homeOfBurning_13 : decode cX3_homeOfBurning 13 = .ok (.istore_n 2, 1) := by decide +kernel
theorem dX3_homeOfBurning_14 : decode cX3_homeOfBurning 14 = .ok (.iload_n 2, 1) := by decide +kernel
theorem dX3_homeOfBurning_15 : decode cX3_homeOfBurning 15 = .ok (.iconst (-1), 1) := by decide +kernel
theorem dX3_homeOfBurning_16 : decode cX3_homeOfBurning 16 = .ok (.if_icmp .ne 13, 3) := by decide +kernel
theorem dX3_homeOfBurning_19 : decode cX3_homeOfBurning 19 = .ok (.new 50, 3) := by decide +kernel
theorem dX3_homeOfBurning_22 : decode cX3_homeOfBurning 22 = .ok (.dup, 1) := by decide +kernel
theorem dX3_homeOfBurning_23 : decode cX3_homeOfBurning 23 = .ok (.ldc 214, 2) := by decide +kernel
theorem dX3_homeOfBurning_25 : decode cX3_homeOfBurning 25 = .ok (.invokespecial 54, 3) := by decide +kernel
theorem dX3_homeOfBurning_28 : decode cX3_homeOfBurning 28 = .ok (.athrow, 1) := by decide +kernel
theorem dX3_homeOfBurning_29 : decode cX3_homeOfBurning 29 = .ok (.aload_n 0, 1) := by decide +kernel
theorem dX3_homeOfBurning_30 : decode cX3_homeOfBurning 30 = .ok (.iload_n 2, 1) := by decide +kernel
theorem dX3_homeOfBurning_31 : decode cX3_homeOfBurning 31 = .ok (.invokevirtual 31, 3) := by decide +kernel
theorem dX3_homeOfBurning_34 : decode cX3_homeOfBurning 34 = .ok (.areturn, 1) := by decide +kernel
theorem dX3_refuseUnlit_0 : decode cX3_refuseUnlit 0 = .ok (.aload_n 0, 1) := by decide +kernel
theorem dX3_refuseUnlit_1 : decode cX3_refuseUnlit 1 = .ok (.getfield 10, 3) := by decide +kernel
theorem dX3_refuseUnlit_4 : decode cX3_refuseUnlit 4 = .ok (.iload_n 1, 1) := by decide +kernel
theorem dX3_refuseUnlit_5 : decode cX3_refuseUnlit 5 = .ok (.invokevirtual 216, 3) := by decide +kernel
theorem dX3_refuseUnlit_8 : decode cX3_refuseUnlit 8 = .ok (.ifCond .ne 13, 3) := by decide +kernel
theorem dX3_refuseUnlit_11 : decode cX3_refuseUnlit 11 = .ok (.new 134, 3) := by decide +kernel
theorem dX3_refuseUnlit_14 : decode cX3_refuseUnlit 14 = .ok (.dup, 1) := by decide +kernel
theorem dX3_refuseUnlit_15 : decode cX3_refuseUnlit 15 = .ok (.ldc 219, 2) := by decide +kernel
theorem dX3_refuseUnlit_17 : decode cX3_refuseUnlit 17 = .ok (.invokespecial 138, 3) := by decide +kernel
theorem dX3_refuseUnlit_20 : decode cX3_refuseUnlit 20 = .ok (.athrow, 1) := by decide +kernel
theorem dX3_refuseUnlit_21 : decode cX3_refuseUnlit 21 = .ok (.return_, 1) := by decide +kernel
theorem dX3_refuseBucket_0 : decode cX3_refuseBucket 0 = .ok (.iload_n 0, 1) := by decide +kernel
theorem dX3_refuseBucket_1 : decode cX3_refuseBucket 1 = .ok (.ifCond .lt 9, 3) := by decide +kernel
theorem dX3_refuseBucket_4 : decode cX3_refuseBucket 4 = .ok (.iload_n 0, 1) := by decide +kernel
theorem dX3_refuseBucket_5 : decode cX3_refuseBucket 5 = .ok (.bipush 11, 2) := by decide +kernel
theorem dX3_refuseBucket_7 : decode cX3_refuseBucket 7 = .ok (.if_icmp .lt 13, 3) := by decide +kernel
theorem dX3_refuseBucket_10 : decode cX3_refuseBucket 10 = .ok (.new 134, 3) := by decide +kernel
theorem dX3_refuseBucket_13 : decode cX3_refuseBucket 13 = .ok (.dup, 1) := by decide +kernel
theorem dX3_refuseBucket_14 : decode cX3_refuseBucket 14 = .ok (.ldc 221, 2) := by decide +kernel
theorem dX3_refuseBucket_16 : decode cX3_refuseBucket 16 = .ok (.invokespecial 138, 3) := by decide +kernel
theorem dX3_refuseBucket_19 : decode cX3_refuseBucket 19 = .ok (.athrow, 1) := by decide +kernel
theorem dX3_refuseBucket_20 : decode cX3_refuseBucket 20 = .ok (.return_, 1) := by decide +kernel
theorem dX4_init_0 : decode cX4_init 0 = .ok (.aload_n 0, 1) := by decide +kernel
theorem dX4_init_1 : decode cX4_init 1 = .ok (.aload_n 1, 1) := by decide +kernel
theorem dX4_init_2 : decode cX4_init 2 = .ok (.putfield 3, 3) := by decide +kernel
theorem dX4_init_5 : decode cX4_init 5 = .ok (.aload_n 0, 1) := by decide +kernel
theorem dX4_init_6 : decode cX4_init 6 = .ok (.invokespecial 9, 3) := by decide +kernel
theorem dX4_init_9 : decode cX4_init 9 = .ok (.aload_n 0, 1) := by decide +kernel
theorem dX4_init_10 : decode cX4_init 10 = .ok (.bipush 40, 2) := by decide +kernel
theorem dX4_init_12 : decode cX4_init 12 = .ok (.newarray .int, 2) := by decide +kernel
theorem dX4_init_14 : decode cX4_init 14 = .ok (.putfield 15, 3) := by decide +kernel
theorem dX4_init_17 : decode cX4_init 17 = .ok (.aload_n 0, 1) := by decide +kernel
theorem dX4_init_18 : decode cX4_init 18 = .ok (.bipush 40, 2) := by decide +kernel
theorem dX4_init_20 : decode cX4_init 20 = .ok (.newarray .int, 2) := by decide +kernel
theorem dX4_init_22 : decode cX4_init 22 = .ok (.putfield 19, 3) := by decide +kernel
theorem dX4_init_25 : decode cX4_init 25 = .ok (.aload_n 0, 1) := by decide +kernel
theorem dX4_init_26 : decode cX4_init 26 = .ok (.bipush 40, 2) := by decide +kernel
theorem dX4_init_28 : decode cX4_init 28 = .ok (.newarray .int, 2) := by decide +kernel
theorem dX4_init_30 : decode cX4_init 30 = .ok (.putfield 22, 3) := by decide +kernel
theorem dX4_init_33 : decode cX4_init 33 = .ok (.aload_n 0, 1) := by decide +kernel
theorem dX4_init_34 : decode cX4_init 34 = .ok (.bipush 40, 2) := by decide +kernel
theorem dX4_init_36 : decode cX4_init 36 = .ok (.newarray .int, 2) := by decide +kernel
theorem dX4_init_38 : decode cX4_init 38 = .ok (.putfield 25, 3) := by decide +kernel
theorem dX4_init_41 : decode cX4_init 41 = .ok (.aload_n 0, 1) := by decide +kernel
theorem dX4_init_42 : decode cX4_init 42 = .ok (.bipush 40, 2) := by decide +kernel
theorem dX4_init_44 : decode cX4_init 44 = .ok (.newarray .int, 2) := by decide +kernel
theorem dX4_init_46 : decode cX4_init 46 = .ok (.putfield 28, 3) := by decide +kernel
theorem dX4_init_49 : decode cX4_init 49 = .ok (.aload_n 0, 1) := by decide +kernel
theorem dX4_init_50 : decode cX4_init 50 = .ok (.iconst 2, 1) := by decide +kernel
theorem dX4_init_51 : decode cX4_init 51 = .ok (.newarray .int, 2) := by decide +kernel
theorem dX4_init_53 : decode cX4_init 53 = .ok (.putfield 31, 3) := by decide +kernel
theorem dX4_init_56 : decode cX4_init 56 = .ok (.aload_n 0, 1) := by decide +kernel
theorem dX4_init_57 : decode cX4_init 57 = .ok (.iconst 2, 1) := by decide +kernel
theorem dX4_init_58 : decode cX4_init 58 = .ok (.newarray .int, 2) := by decide +kernel
theorem dX4_init_60 : decode cX4_init 60 = .ok (.putfield 34, 3) := by decide +kernel
theorem dX4_init_63 : decode cX4_init 63 = .ok (.aload_n 0, 1) := by decide +kernel
theorem dX4_init_64 : decode cX4_init 64 = .ok (.bipush 40, 2) := by decide +kernel
theorem dX4_init_66 : decode cX4_init 66 = .ok (.newarray .int, 2) := by decide +kernel
theorem dX4_init_68 : decode cX4_init 68 = .ok (.putfield 37, 3) := by decide +kernel
theorem dX4_init_71 : decode cX4_init 71 = .ok (.return_, 1) := by decide +kernel
theorem dX4_copy_0 : decode cX4_copy 0 = .ok (.aload_n 1, 1) := by decide +kernel
theorem dX4_copy_1 : decode cX4_copy 1 = .ok (.iconst 0, 1) := by decide +kernel
theorem dX4_copy_2 : decode cX4_copy 2 = .ok (.aload_n 2, 1) := by decide +kernel
theorem dX4_copy_3 : decode cX4_copy 3 = .ok (.iconst 0, 1) := by decide +kernel
theorem dX4_copy_4 : decode cX4_copy 4 = .ok (.aload_n 1, 1) := by decide +kernel
theorem dX4_copy_5 : decode cX4_copy 5 = .ok (.arraylength, 1) := by decide +kernel
theorem dX4_copy_6 : decode cX4_copy 6 = .ok (.invokestatic 40, 3) := by decide +kernel
theorem dX4_copy_9 : decode cX4_copy 9 = .ok (.return_, 1) := by decide +kernel
theorem dX4_become_0 : decode cX4_become 0 = .ok (.aload_n 0, 1) := by decide +kernel
theorem dX4_become_1 : decode cX4_become 1 = .ok (.aload_n 1, 1) := by decide +kernel
theorem dX4_become_2 : decode cX4_become 2 = .ok (.getfield 15, 3) := by decide +kernel
theorem dX4_become_5 : decode cX4_become 5 = .ok (.aload_n 0, 1) := by decide +kernel
theorem dX4_become_6 : decode cX4_become 6 = .ok (.getfield 15, 3) := by decide +kernel
theorem dX4_become_9 : decode cX4_become 9 = .ok (.invokevirtual 46, 3) := by decide +kernel
theorem dX4_become_12 : decode cX4_become 12 = .ok (.aload_n 0, 1) := by decide +kernel
theorem dX4_become_13 : decode cX4_become 13 = .ok (.aload_n 1, 1) := by decide +kernel
theorem dX4_become_14 : decode cX4_become 14 = .ok (.getfield 19, 3) := by decide +kernel
theorem dX4_become_17 : decode cX4_become 17 = .ok (.aload_n 0, 1) := by decide +kernel
theorem dX4_become_18 : decode cX4_become 18 = .ok (.getfield 19, 3) := by decide +kernel
theorem dX4_become_21 : decode cX4_become 21 = .ok (.invokevirtual 46, 3) := by decide +kernel
theorem dX4_become_24 : decode cX4_become 24 = .ok (.aload_n 0, 1) := by decide +kernel
theorem dX4_become_25 : decode cX4_become 25 = .ok (.aload_n 1, 1) := by decide +kernel
theorem dX4_become_26 : decode cX4_become 26 = .ok (.getfield 22, 3) := by decide +kernel
theorem dX4_become_29 : decode cX4_become 29 = .ok (.aload_n 0, 1) := by decide +kernel
theorem dX4_become_30 : decode cX4_become 30 = .ok (.getfield 22, 3) := by decide +kernel
theorem dX4_become_33 : decode cX4_become 33 = .ok (.invokevirtual 46, 3) := by decide +kernel
theorem dX4_become_36 : decode cX4_become 36 = .ok (.aload_n 0, 1) := by decide +kernel
theorem dX4_become_37 : decode cX4_become 37 = .ok (.aload_n 1, 1) := by decide +kernel
theorem dX4_become_38 : decode cX4_become 38 = .ok (.getfield 25, 3) := by decide +kernel
theorem dX4_become_41 : decode cX4_become 41 = .ok (.aload_n 0, 1) := by decide +kernel
theorem dX4_become_42 : decode cX4_become 42 = .ok (.getfield 25, 3) := by decide +kernel
theorem dX4_become_45 : decode cX4_become 45 = .ok (.invokevirtual 46, 3) := by decide +kernel
theorem dX4_become_48 : decode cX4_become 48 = .ok (.aload_n 0, 1) := by decide +kernel
theorem dX4_become_49 : decode cX4_become 49 = .ok (.aload_n 1, 1) := by decide +kernel
theorem dX4_become_50 : decode cX4_become 50 = .ok (.getfield 28, 3) := by decide +kernel
theorem dX4_become_53 : decode cX4_become 53 = .ok (.aload_n 0, 1) := by decide +kernel
theorem dX4_become_54 : decode cX4_become 54 = .ok (.getfield 28, 3) := by decide +kernel
theorem dX4_become_57 : decode cX4_become 57 = .ok (.invokevirtual 46, 3) := by decide +kernel
theorem dX4_become_60 : decode cX4_become 60 = .ok (.aload_n 0, 1) := by decide +kernel
theorem dX4_become_61 : decode cX4_become 61 = .ok (.aload_n 1, 1) := by decide +kernel
theorem dX4_become_62 : decode cX4_become 62 = .ok (.getfield 31, 3) := by decide +kernel
theorem dX4_become_65 : decode cX4_become 65 = .ok (.aload_n 0, 1) := by decide +kernel
theorem dX4_become_66 : decode cX4_become 66 = .ok (.getfield 31, 3) := by decide +kernel
theorem dX4_become_69 : decode cX4_become 69 = .ok (.invokevirtual 46, 3) := by decide +kernel
theorem dX4_become_72 : decode cX4_become 72 = .ok (.aload_n 0, 1) := by decide +kernel
theorem dX4_become_73 : decode cX4_become 73 = .ok (.aload_n 1, 1) := by decide +kernel
theorem dX4_become_74 : decode cX4_become 74 = .ok (.getfield 34, 3) := by decide +kernel
theorem dX4_become_77 : decode cX4_become 77 = .ok (.aload_n 0, 1) := by decide +kernel
theorem dX4_become_78 : decode cX4_become 78 = .ok (.getfield 34, 3) := by decide +kernel
theorem dX4_become_81 : decode cX4_become 81 = .ok (.invokevirtual 46, 3) := by decide +kernel
theorem dX4_become_84 : decode cX4_become 84 = .ok (.aload_n 0, 1) := by decide +kernel
theorem dX4_become_85 : decode cX4_become 85 = .ok (.aload_n 1, 1) := by decide +kernel
theorem dX4_become_86 : decode cX4_become 86 = .ok (.getfield 50, 3) := by decide +kernel
theorem dX4_become_89 : decode cX4_become 89 = .ok (.putfield 50, 3) := by decide +kernel
theorem dX4_become_92 : decode cX4_become 92 = .ok (.aload_n 0, 1) := by decide +kernel
theorem dX4_become_93 : decode cX4_become 93 = .ok (.aload_n 1, 1) := by decide +kernel
theorem dX4_become_94 : decode cX4_become 94 = .ok (.getfield 54, 3) := by decide +kernel
theorem dX4_become_97 : decode cX4_become 97 = .ok (.putfield 54, 3) := by decide +kernel
theorem dX4_become_100 : decode cX4_become 100 = .ok (.aload_n 0, 1) := by decide +kernel
theorem dX4_become_101 : decode cX4_become 101 = .ok (.aload_n 1, 1) := by decide +kernel
theorem dX4_become_102 : decode cX4_become 102 = .ok (.getfield 57, 3) := by decide +kernel
theorem dX4_become_105 : decode cX4_become 105 = .ok (.putfield 57, 3) := by decide +kernel
theorem dX4_become_108 : decode cX4_become 108 = .ok (.aload_n 0, 1) := by decide +kernel
theorem dX4_become_109 : decode cX4_become 109 = .ok (.areturn, 1) := by decide +kernel
theorem dX4_bucketAt_0 : decode cX4_bucketAt 0 = .ok (.bipush 32, 2) := by decide +kernel
theorem dX4_bucketAt_2 : decode cX4_bucketAt 2 = .ok (.iload_n 2, 1) := by decide +kernel
theorem dX4_bucketAt_3 : decode cX4_bucketAt 3 = .ok (.aload_n 0, 1) := by decide +kernel
theorem dX4_bucketAt_4 : decode cX4_bucketAt 4 = .ok (.getfield 31, 3) := by decide +kernel
theorem dX4_bucketAt_7 : decode cX4_bucketAt 7 = .ok (.iload_n 1, 1) := by decide +kernel
theorem dX4_bucketAt_8 : decode cX4_bucketAt 8 = .ok (.iaload, 1) := by decide +kernel
theorem dX4_bucketAt_9 : decode cX4_bucketAt 9 = .ok (.ixor, 1) := by decide +kernel
theorem dX4_bucketAt_10 : decode cX4_bucketAt 10 = .ok (.invokestatic 60, 3) := by decide +kernel
theorem dX4_bucketAt_13 : decode cX4_bucketAt 13 = .ok (.isub, 1) := by decide +kernel
theorem dX4_bucketAt_14 : decode cX4_bucketAt 14 = .ok (.ireturn, 1) := by decide +kernel
theorem dX4_bucket_0 : decode cX4_bucket 0 = .ok (.aload_n 0, 1) := by decide +kernel
theorem dX4_bucket_1 : decode cX4_bucket 1 = .ok (.getfield 19, 3) := by decide +kernel
theorem dX4_bucket_4 : decode cX4_bucket 4 = .ok (.iload_n 1, 1) := by decide +kernel
theorem dX4_bucket_5 : decode cX4_bucket 5 = .ok (.iaload, 1) := by decide +kernel
theorem dX4_bucket_6 : decode cX4_bucket 6 = .ok (.iconst (-1), 1) := by decide +kernel
theorem dX4_bucket_7 : decode cX4_bucket 7 = .ok (.if_icmp .ne 7, 3) := by decide +kernel
theorem dX4_bucket_10 : decode cX4_bucket 10 = .ok (.iconst (-1), 1) := by decide +kernel
theorem dX4_bucket_11 : decode cX4_bucket 11 = .ok (.goto 19, 3) := by decide +kernel
theorem dX4_bucket_14 : decode cX4_bucket 14 = .ok (.aload_n 0, 1) := by decide +kernel
theorem dX4_bucket_15 : decode cX4_bucket 15 = .ok (.aload_n 0, 1) := by decide +kernel
theorem dX4_bucket_16 : decode cX4_bucket 16 = .ok (.getfield 19, 3) := by decide +kernel
theorem dX4_bucket_19 : decode cX4_bucket 19 = .ok (.iload_n 1, 1) := by decide +kernel
theorem dX4_bucket_20 : decode cX4_bucket 20 = .ok (.iaload, 1) := by decide +kernel
theorem dX4_bucket_21 : decode cX4_bucket 21 = .ok (.aload_n 0, 1) := by decide +kernel
theorem dX4_bucket_22 : decode cX4_bucket 22 = .ok (.getfield 15, 3) := by decide +kernel
theorem dX4_bucket_25 : decode cX4_bucket 25 = .ok (.iload_n 1, 1) := by decide +kernel
theorem dX4_bucket_26 : decode cX4_bucket 26 = .ok (.iaload, 1) := by decide +kernel
theorem dX4_bucket_27 : decode cX4_bucket 27 = .ok (.invokevirtual 66, 3) := by decide +kernel
theorem dX4_bucket_30 : decode cX4_bucket 30 = .ok (.ireturn, 1) := by decide +kernel
theorem dX4_size_0 : decode cX4_size 0 = .ok (.iconst 0, 1) := by decide +kernel
theorem dX4_size_1 : decode cX4_size 1 = .ok (.istore_n 2, 1) := by decide +kernel
theorem dX4_size_2 : decode cX4_size 2 = .ok (.iconst 0, 1) := by decide +kernel
theorem dX4_size_3 : decode cX4_size 3 = .ok (.istore_n 3, 1) := by decide +kernel
theorem dX4_size_4 : decode cX4_size 4 = .ok (.iload_n 3, 1) := by decide +kernel
theorem dX4_size_5 : decode cX4_size 5 = .ok (.aload_n 0, 1) := by decide +kernel
theorem dX4_size_6 : decode cX4_size 6 = .ok (.getfield 3, 3) := by decide +kernel
theorem dX4_size_9 : decode cX4_size 9 = .ok (.getfield 70, 3) := by decide +kernel
theorem dX4_size_12 : decode cX4_size 12 = .ok (.if_icmp .ge 27, 3) := by decide +kernel
theorem dX4_size_15 : decode cX4_size 15 = .ok (.iload_n 2, 1) := by decide +kernel
theorem dX4_size_16 : decode cX4_size 16 = .ok (.aload_n 0, 1) := by decide +kernel
theorem dX4_size_17 : decode cX4_size 17 = .ok (.getfield 19, 3) := by decide +kernel
theorem dX4_size_20 : decode cX4_size 20 = .ok (.iload_n 3, 1) := by decide +kernel
theorem dX4_size_21 : decode cX4_size 21 = .ok (.iaload, 1) := by decide +kernel
theorem dX4_size_22 : decode cX4_size 22 = .ok (.iload_n 1, 1) := by decide +kernel
theorem dX4_size_23 : decode cX4_size 23 = .ok (.if_icmp .ne 7, 3) := by decide +kernel
theorem dX4_size_26 : decode cX4_size 26 = .ok (.iconst 1, 1) := by decide +kernel
theorem dX4_size_27 : decode cX4_size 27 = .ok (.goto 4, 3) := by decide +kernel
theorem dX4_size_30 : decode cX4_size 30 = .ok (.iconst 0, 1) := by decide +kernel
theorem dX4_size_31 : decode cX4_size 31 = .ok (.iadd, 1) := by decide +kernel
theorem dX4_size_32 : decode cX4_size 32 = .ok (.istore_n 2, 1) := by decide +kernel
theorem dX4_size_33 : decode cX4_size 33 = .ok (.iinc 3 1, 3) := by decide +kernel
theorem dX4_size_36 : decode cX4_size 36 = .ok (.goto (-32), 3) := by decide +kernel
theorem dX4_size_39 : decode cX4_size 39 = .ok (.iload_n 2, 1) := by decide +kernel
theorem dX4_size_40 : decode cX4_size 40 = .ok (.ireturn, 1) := by decide +kernel
theorem dX4_line_0 : decode cX4_line 0 = .ok (.iconst 0, 1) := by decide +kernel
theorem dX4_line_1 : decode cX4_line 1 = .ok (.istore_n 3, 1) := by decide +kernel
theorem dX4_line_2 : decode cX4_line 2 = .ok (.iconst 0, 1) := by decide +kernel
theorem dX4_line_3 : decode cX4_line 3 = .ok (.istore 4, 2) := by decide +kernel
theorem dX4_line_5 : decode cX4_line 5 = .ok (.iload 4, 2) := by decide +kernel
theorem dX4_line_7 : decode cX4_line 7 = .ok (.aload_n 0, 1) := by decide +kernel
theorem dX4_line_8 : decode cX4_line 8 = .ok (.getfield 3, 3) := by decide +kernel
theorem dX4_line_11 : decode cX4_line 11 = .ok (.getfield 70, 3) := by decide +kernel
theorem dX4_line_14 : decode cX4_line 14 = .ok (.if_icmp .ge 99, 3) := by decide +kernel
theorem dX4_line_17 : decode cX4_line 17 = .ok (.aload_n 0, 1) := by decide +kernel
theorem dX4_line_18 : decode cX4_line 18 = .ok (.getfield 19, 3) := by decide +kernel
theorem dX4_line_21 : decode cX4_line 21 = .ok (.iload 4, 2) := by decide +kernel
theorem dX4_line_23 : decode cX4_line 23 = .ok (.iaload, 1) := by decide +kernel
theorem dX4_line_24 : decode cX4_line 24 = .ok (.iload_n 1, 1) := by decide +kernel
theorem dX4_line_25 : decode cX4_line 25 = .ok (.if_icmp .ne 82, 3) := by decide +kernel
theorem dX4_line_28 : decode cX4_line 28 = .ok (.aload_n 0, 1) := by decide +kernel
theorem dX4_line_29 : decode cX4_line 29 = .ok (.iload 4, 2) := by decide +kernel
theorem dX4_line_31 : decode cX4_line 31 = .ok (.invokevirtual 73, 3) := by decide +kernel
theorem dX4_line_34 : decode cX4_line 34 = .ok (.iload_n 2, 1) := by decide +kernel
theorem dX4_line_35 : decode cX4_line 35 = .ok (.if_icmp .eq 6, 3) := by decide +kernel
theorem dX4_line_38 : decode cX4_line 38 = .ok (.goto 69, 3) := by decide +kernel
theorem dX4_line_41 : decode cX4_line 41 = .ok (.iload_n 3, 1) := by decide +kernel
theorem dX4_line_42 : decode cX4_line 42 = .ok (.istore 5, 2) := by decide +kernel
theorem dX4_line_44 : decode cX4_line 44 = .ok (.iload 5, 2) := by decide +kernel
theorem dX4_line_46 : decode cX4_line 46 = .ok (.ifCond .le 49, 3) := by decide +kernel
theorem dX4_line_49 : decode cX4_line 49 = .ok (.aload_n 0, 1) := by decide +kernel
theorem dX4_line_50 : decode cX4_line 50 = .ok (.getfield 22, 3) := by decide +kernel
theorem dX4_line_53 : decode cX4_line 53 = .ok (.aload_n 0, 1) := by decide +kernel
theorem dX4_line_54 : decode cX4_line 54 = .ok (.getfield 37, 3) := by decide +kernel
theorem dX4_line_57 : decode cX4_line 57 = .ok (.iload 5, 2) := by decide +kernel
theorem dX4_line_59 : decode cX4_line 59 = .ok (.iconst 1, 1) := by decide +kernel
theorem dX4_line_60 : decode cX4_line 60 = .ok (.isub, 1) := by decide +kernel
theorem dX4_line_61 : decode cX4_line 61 = .ok (.iaload, 1) := by decide +kernel
theorem dX4_line_62 : decode cX4_line 62 = .ok (.iaload, 1) := by decide +kernel
theorem dX4_line_63 : decode cX4_line 63 = .ok (.aload_n 0, 1) := by decide +kernel
theorem dX4_line_64 : decode cX4_line 64 = .ok (.getfield 22, 3) := by decide +kernel
theorem dX4_line_67 : decode cX4_line 67 = .ok (.iload 4, 2) := by decide +kernel
theorem dX4_line_69 : decode cX4_line 69 = .ok (.iaload, 1) := by decide +kernel
theorem dX4_line_70 : decode cX4_line 70 = .ok (.if_icmp .le 25, 3) := by decide +kernel
theorem dX4_line_73 : decode cX4_line 73 = .ok (.aload_n 0, 1) := by decide +kernel
theorem dX4_line_74 : decode cX4_line 74 = .ok (.getfield 37, 3) := by decide +kernel
theorem dX4_line_77 : decode cX4_line 77 = .ok (.iload 5, 2) := by decide +kernel
theorem dX4_line_79 : decode cX4_line 79 = .ok (.aload_n 0, 1) := by decide +kernel
theorem dX4_line_80 : decode cX4_line 80 = .ok (.getfield 37, 3) := by decide +kernel
theorem dX4_line_83 : decode cX4_line 83 = .ok (.iload 5, 2) := by decide +kernel
theorem dX4_line_85 : decode cX4_line 85 = .ok (.iconst 1, 1) := by decide +kernel
theorem dX4_line_86 : decode cX4_line 86 = .ok (.isub, 1) := by decide +kernel
theorem dX4_line_87 : decode cX4_line 87 = .ok (.iaload, 1) := by decide +kernel
theorem dX4_line_88 : decode cX4_line 88 = .ok (.iastore, 1) := by decide +kernel
theorem dX4_line_89 : decode cX4_line 89 = .ok (.iinc 5 (-1), 3) := by decide +kernel
theorem dX4_line_92 : decode cX4_line 92 = .ok (.goto (-48), 3) := by decide +kernel
theorem dX4_line_95 : decode cX4_line 95 = .ok (.aload_n 0, 1) := by decide +kernel
theorem dX4_line_96 : decode cX4_line 96 = .ok (.getfield 37, 3) := by decide +kernel
theorem dX4_line_99 : decode cX4_line 99 = .ok (.iload 5, 2) := by decide +kernel
theorem dX4_line_101 : decode cX4_line 101 = .ok (.iload 4, 2) := by decide +kernel
theorem dX4_line_103 : decode cX4_line 103 = .ok (.iastore, 1) := by decide +kernel
theorem dX4_line_104 : decode cX4_line 104 = .ok (.iinc 3 1, 3) := by decide +kernel
theorem dX4_line_107 : decode cX4_line 107 = .ok (.iinc 4 1, 3) := by decide +kernel
theorem dX4_line_110 : decode cX4_line 110 = .ok (.goto (-105), 3) := by decide +kernel
theorem dX4_line_113 : decode cX4_line 113 = .ok (.iload_n 3, 1) := by decide +kernel
theorem dX4_line_114 : decode cX4_line 114 = .ok (.ireturn, 1) := by decide +kernel
theorem dX4_lineAll_0 : decode cX4_lineAll 0 = .ok (.iconst 0, 1) := by decide +kernel
theorem dX4_lineAll_1 : decode cX4_lineAll 1 = .ok (.istore_n 2, 1) := by decide +kernel
theorem dX4_lineAll_2 : decode cX4_lineAll 2 = .ok (.iconst 0, 1) := by decide +kernel
theorem dX4_lineAll_3 : decode cX4_lineAll 3 = .ok (.istore_n 3, 1) := by decide +kernel
theorem dX4_lineAll_4 : decode cX4_lineAll 4 = .ok (.iload_n 3, 1) := by decide +kernel
theorem dX4_lineAll_5 : decode cX4_lineAll 5 = .ok (.aload_n 0, 1) := by decide +kernel
theorem dX4_lineAll_6 : decode cX4_lineAll 6 = .ok (.getfield 3, 3) := by decide +kernel
theorem dX4_lineAll_9 : decode cX4_lineAll 9 = .ok (.getfield 70, 3) := by decide +kernel
theorem dX4_lineAll_12 : decode cX4_lineAll 12 = .ok (.if_icmp .ge 80, 3) := by decide +kernel
theorem dX4_lineAll_15 : decode cX4_lineAll 15 = .ok (.aload_n 0, 1) := by decide +kernel
theorem dX4_lineAll_16 : decode cX4_lineAll 16 = .ok (.getfield 19, 3) := by decide +kernel
theorem dX4_lineAll_19 : decode cX4_lineAll 19 = .ok (.iload_n 3, 1) := by decide +kernel
theorem dX4_lineAll_20 : decode cX4_lineAll 20 = .ok (.iaload, 1) := by decide +kernel
theorem dX4_lineAll_21 : decode cX4_lineAll 21 = .ok (.iload_n 1, 1) := by decide +kernel
theorem dX4_lineAll_22 : decode cX4_lineAll 22 = .ok (.if_icmp .eq 6, 3) := by decide +kernel
theorem dX4_lineAll_25 : decode cX4_lineAll 25 = .ok (.goto 61, 3) := by decide +kernel
theorem dX4_lineAll_28 : decode cX4_lineAll 28 = .ok (.iload_n 2, 1) := by decide +kernel
theorem dX4_lineAll_29 : decode cX4_lineAll 29 = .ok (.istore 4, 2) := by decide +kernel
theorem dX4_lineAll_31 : decode cX4_lineAll 31 = .ok (.iload 4, 2) := by decide +kernel
theorem dX4_lineAll_33 : decode cX4_lineAll 33 = .ok (.ifCond .le 42, 3) := by decide +kernel
theorem dX4_lineAll_36 : decode cX4_lineAll 36 = .ok (.aload_n 0, 1) := by decide +kernel
theorem dX4_lineAll_37 : decode cX4_lineAll 37 = .ok (.iload_n 3, 1) := by decide +kernel
theorem dX4_lineAll_38 : decode cX4_lineAll 38 = .ok (.aload_n 0, 1) := by decide +kernel
theorem dX4_lineAll_39 : decode cX4_lineAll 39 = .ok (.getfield 37, 3) := by decide +kernel
theorem dX4_lineAll_42 : decode cX4_lineAll 42 = .ok (.iload 4, 2) := by decide +kernel
theorem dX4_lineAll_44 : decode cX4_lineAll 44 = .ok (.iconst 1, 1) := by decide +kernel
theorem dX4_lineAll_45 : decode cX4_lineAll 45 = .ok (.isub, 1) := by decide +kernel
theorem dX4_lineAll_46 : decode cX4_lineAll 46 = .ok (.iaload, 1) := by decide +kernel
theorem dX4_lineAll_47 : decode cX4_lineAll 47 = .ok (.invokevirtual 76, 3) := by decide +kernel
theorem dX4_lineAll_50 : decode cX4_lineAll 50 = .ok (.ifCond .eq 25, 3) := by decide +kernel
theorem dX4_lineAll_53 : decode cX4_lineAll 53 = .ok (.aload_n 0, 1) := by decide +kernel
theorem dX4_lineAll_54 : decode cX4_lineAll 54 = .ok (.getfield 37, 3) := by decide +kernel
theorem dX4_lineAll_57 : decode cX4_lineAll 57 = .ok (.iload 4, 2) := by decide +kernel
theorem dX4_lineAll_59 : decode cX4_lineAll 59 = .ok (.aload_n 0, 1) := by decide +kernel
theorem dX4_lineAll_60 : decode cX4_lineAll 60 = .ok (.getfield 37, 3) := by decide +kernel
theorem dX4_lineAll_63 : decode cX4_lineAll 63 = .ok (.iload 4, 2) := by decide +kernel
theorem dX4_lineAll_65 : decode cX4_lineAll 65 = .ok (.iconst 1, 1) := by decide +kernel
theorem dX4_lineAll_66 : decode cX4_lineAll 66 = .ok (.isub, 1) := by decide +kernel
theorem dX4_lineAll_67 : decode cX4_lineAll 67 = .ok (.iaload, 1) := by decide +kernel
theorem dX4_lineAll_68 : decode cX4_lineAll 68 = .ok (.iastore, 1) := by decide +kernel
theorem dX4_lineAll_69 : decode cX4_lineAll 69 = .ok (.iinc 4 (-1), 3) := by decide +kernel
theorem dX4_lineAll_72 : decode cX4_lineAll 72 = .ok (.goto (-41), 3) := by decide +kernel
theorem dX4_lineAll_75 : decode cX4_lineAll 75 = .ok (.aload_n 0, 1) := by decide +kernel
theorem dX4_lineAll_76 : decode cX4_lineAll 76 = .ok (.getfield 37, 3) := by decide +kernel
theorem dX4_lineAll_79 : decode cX4_lineAll 79 = .ok (.iload 4, 2) := by decide +kernel
theorem dX4_lineAll_81 : decode cX4_lineAll 81 = .ok (.iload_n 3, 1) := by decide +kernel
theorem dX4_lineAll_82 : decode cX4_lineAll 82 = .ok (.iastore, 1) := by decide +kernel
theorem dX4_lineAll_83 : decode cX4_lineAll 83 = .ok (.iinc 2 1, 3) := by decide +kernel
theorem dX4_lineAll_86 : decode cX4_lineAll 86 = .ok (.iinc 3 1, 3) := by decide +kernel
theorem dX4_lineAll_89 : decode cX4_lineAll 89 = .ok (.goto (-85), 3) := by decide +kernel
theorem dX4_lineAll_92 : decode cX4_lineAll 92 = .ok (.iload_n 2, 1) := by decide +kernel
theorem dX4_lineAll_93 : decode cX4_lineAll 93 = .ok (.ireturn, 1) := by decide +kernel
theorem dX4_isAhead_0 : decode cX4_isAhead 0 = .ok (.aload_n 0, 1) := by decide +kernel
theorem dX4_isAhead_1 : decode cX4_isAhead 1 = .ok (.iload_n 1, 1) := by decide +kernel
theorem dX4_isAhead_2 : decode cX4_isAhead 2 = .ok (.invokevirtual 73, 3) := by decide +kernel
theorem dX4_isAhead_5 : decode cX4_isAhead 5 = .ok (.aload_n 0, 1) := by decide +kernel
theorem dX4_isAhead_6 : decode cX4_isAhead 6 = .ok (.iload_n 2, 1) := by decide +kernel
theorem dX4_isAhead_7 : decode cX4_isAhead 7 = .ok (.invokevirtual 73, 3) := by decide +kernel
theorem dX4_isAhead_10 : decode cX4_isAhead 10 = .ok (.if_icmp .eq 24, 3) := by decide +kernel
theorem dX4_isAhead_13 : decode cX4_isAhead 13 = .ok (.aload_n 0, 1) := by decide +kernel
theorem dX4_isAhead_14 : decode cX4_isAhead 14 = .ok (.iload_n 1, 1) := by decide +kernel
theorem dX4_isAhead_15 : decode cX4_isAhead 15 = .ok (.invokevirtual 73, 3) := by decide +kernel
theorem dX4_isAhead_18 : decode cX4_isAhead 18 = .ok (.aload_n 0, 1) := by decide +kernel
theorem dX4_isAhead_19 : decode cX4_isAhead 19 = .ok (.iload_n 2, 1) := by decide +kernel
theorem dX4_isAhead_20 : decode cX4_isAhead 20 = .ok (.invokevirtual 73, 3) := by decide +kernel
theorem dX4_isAhead_23 : decode cX4_isAhead 23 = .ok (.if_icmp .ge 7, 3) := by decide +kernel
theorem dX4_isAhead_26 : decode cX4_isAhead 26 = .ok (.iconst 1, 1) := by decide +kernel
theorem dX4_isAhead_27 : decode cX4_isAhead 27 = .ok (.goto 27, 3) := by decide +kernel
theorem dX4_isAhead_30 : decode cX4_isAhead 30 = .ok (.iconst 0, 1) := by decide +kernel
theorem dX4_isAhead_31 : decode cX4_isAhead 31 = .ok (.goto 23, 3) := by decide +kernel
theorem dX4_isAhead_34 : decode cX4_isAhead 34 = .ok (.aload_n 0, 1) := by decide +kernel
theorem dX4_isAhead_35 : decode cX4_isAhead 35 = .ok (.getfield 22, 3) := by decide +kernel
theorem dX4_isAhead_38 : decode cX4_isAhead 38 = .ok (.iload_n 1, 1) := by decide +kernel
theorem dX4_isAhead_39 : decode cX4_isAhead 39 = .ok (.iaload, 1) := by decide +kernel
theorem dX4_isAhead_40 : decode cX4_isAhead 40 = .ok (.aload_n 0, 1) := by decide +kernel
theorem dX4_isAhead_41 : decode cX4_isAhead 41 = .ok (.getfield 22, 3) := by decide +kernel
theorem dX4_isAhead_44 : decode cX4_isAhead 44 = .ok (.iload_n 2, 1) := by decide +kernel
theorem dX4_isAhead_45 : decode cX4_isAhead 45 = .ok (.iaload, 1) := by decide +kernel
theorem dX4_isAhead_46 : decode cX4_isAhead 46 = .ok (.if_icmp .ge 7, 3) := by decide +kernel
theorem dX4_isAhead_49 : decode cX4_isAhead 49 = .ok (.iconst 1, 1) := by decide +kernel
theorem dX4_isAhead_50 : decode cX4_isAhead 50 = .ok (.goto 4, 3) := by decide +kernel
theorem dX4_isAhead_53 : decode cX4_isAhead 53 = .ok (.iconst 0, 1) := by decide +kernel
theorem dX4_isAhead_54 : decode cX4_isAhead 54 = .ok (.ireturn, 1) := by decide +kernel
theorem dX4_end_0 : decode cX4_end 0 = .ok (.iconst (-1), 1) := by decide +kernel
theorem dX4_end_1 : decode cX4_end 1 = .ok (.istore_n 3, 1) := by decide +kernel
theorem dX4_end_2 : decode cX4_end 2 = .ok (.iconst 0, 1) := by decide +kernel
theorem dX4_end_3 : decode cX4_end 3 = .ok (.istore 4, 2) := by decide +kernel
theorem dX4_end_5 : decode cX4_end 5 = .ok (.iload 4, 2) := by decide +kernel
theorem dX4_end_7 : decode cX4_end 7 = .ok (.aload_n 0, 1) := by decide +kernel
theorem dX4_end_8 : decode cX4_end 8 = .ok (.getfield 3, 3) := by decide +kernel
theorem dX4_end_11 : decode cX4_end 11 = .ok (.getfield 70, 3) := by decide +kernel
theorem dX4_end_14 : decode cX4_end 14 = .ok (.if_icmp .ge 54, 3) := by decide +kernel
theorem dX4_end_17 : decode cX4_end 17 = .ok (.aload_n 0, 1) := by decide +kernel
theorem dX4_end_18 : decode cX4_end 18 = .ok (.getfield 19, 3) := by decide +kernel
theorem dX4_end_21 : decode cX4_end 21 = .ok (.iload 4, 2) := by decide +kernel
theorem dX4_end_23 : decode cX4_end 23 = .ok (.iaload, 1) := by decide +kernel
theorem dX4_end_24 : decode cX4_end 24 = .ok (.iload_n 1, 1) := by decide +kernel
theorem dX4_end_25 : decode cX4_end 25 = .ok (.if_icmp .eq 6, 3) := by decide +kernel
theorem dX4_end_28 : decode cX4_end 28 = .ok (.goto 34, 3) := by decide +kernel
theorem dX4_end_31 : decode cX4_end 31 = .ok (.iload_n 3, 1) := by decide +kernel
theorem dX4_end_32 : decode cX4_end 32 = .ok (.iconst (-1), 1) := by decide +kernel
theorem dX4_end_33 : decode cX4_end 33 = .ok (.if_icmp .eq 22, 3) := by decide +kernel
theorem dX4_end_36 : decode cX4_end 36 = .ok (.aload_n 0, 1) := by decide +kernel
theorem dX4_end_37 : decode cX4_end 37 = .ok (.iload 4, 2) := by decide +kernel
theorem dX4_end_39 : decode cX4_end 39 = .ok (.invokevirtual 73, 3) := by decide +kernel
theorem dX4_end_42 : decode cX4_end 42 = .ok (.iload_n 3, 1) := by decide +kernel
theorem dX4_end_43 : decode cX4_end 43 = .ok (.if_icmp .ge 7, 3) := by decide +kernel
theorem dX4_end_46 : decode cX4_end 46 = .ok (.iconst 1, 1) := by decide +kernel
theorem dX4_end_47 : decode cX4_end 47 = .ok (.goto 4, 3) := by decide +kernel
theorem dX4_end_50 : decode cX4_end 50 = .ok (.iconst 0, 1) := by decide +kernel
theorem dX4_end_51 : decode cX4_end 51 = .ok (.iload_n 2, 1) := by decide +kernel
theorem dX4_end_52 : decode cX4_end 52 = .ok (.if_icmp .ne 10, 3) := by decide +kernel
theorem dX4_end_55 : decode cX4_end 55 = .ok (.aload_n 0, 1) := by decide +kernel
theorem dX4_end_56 : decode cX4_end 56 = .ok (.iload 4, 2) := by decide +kernel
theorem dX4_end_58 : decode cX4_end 58 = .ok (.invokevirtual 73, 3) := by decide +kernel
theorem dX4_end_61 : decode cX4_end 61 = .ok (.istore_n 3, 1) := by decide +kernel
theorem dX4_end_62 : decode cX4_end 62 = .ok (.iinc 4 1, 3) := by decide +kernel
theorem dX4_end_65 : decode cX4_end 65 = .ok (.goto (-60), 3) := by decide +kernel
theorem dX4_end_68 : decode cX4_end 68 = .ok (.iload_n 3, 1) := by decide +kernel
theorem dX4_end_69 : decode cX4_end 69 = .ok (.ireturn, 1) := by decide +kernel
theorem dX4_least_0 : decode cX4_least 0 = .ok (.sipush 1023, 3) := by decide +kernel
theorem dX4_least_3 : decode cX4_least 3 = .ok (.istore_n 2, 1) := by decide +kernel
theorem dX4_least_4 : decode cX4_least 4 = .ok (.iconst 0, 1) := by decide +kernel
theorem dX4_least_5 : decode cX4_least 5 = .ok (.istore_n 3, 1) := by decide +kernel
theorem dX4_least_6 : decode cX4_least 6 = .ok (.iload_n 3, 1) := by decide +kernel
theorem dX4_least_7 : decode cX4_least 7 = .ok (.aload_n 0, 1) := by decide +kernel
theorem dX4_least_8 : decode cX4_least 8 = .ok (.getfield 3, 3) := by decide +kernel
theorem dX4_least_11 : decode cX4_least 11 = .ok (.getfield 70, 3) := by decide +kernel
theorem dX4_least_14 : decode cX4_least 14 = .ok (.if_icmp .ge 30, 3) := by decide +kernel
theorem dX4_least_17 : decode cX4_least 17 = .ok (.aload_n 0, 1) := by decide +kernel
theorem dX4_least_18 : decode cX4_least 18 = .ok (.getfield 19, 3) := by decide +kernel
theorem dX4_least_21 : decode cX4_least 21 = .ok (.iload_n 3, 1) := by decide +kernel
theorem dX4_least_22 : decode cX4_least 22 = .ok (.iaload, 1) := by decide +kernel
theorem dX4_least_23 : decode cX4_least 23 = .ok (.iload_n 1, 1) := by decide +kernel
theorem dX4_least_24 : decode cX4_least 24 = .ok (.if_icmp .ne 14, 3) := by decide +kernel
theorem dX4_least_27 : decode cX4_least 27 = .ok (.iload_n 2, 1) := by decide +kernel
theorem dX4_least_28 : decode cX4_least 28 = .ok (.aload_n 0, 1) := by decide +kernel
theorem dX4_least_29 : decode cX4_least 29 = .ok (.getfield 15, 3) := by decide +kernel
theorem dX4_least_32 : decode cX4_least 32 = .ok (.iload_n 3, 1) := by decide +kernel
theorem dX4_least_33 : decode cX4_least 33 = .ok (.iaload, 1) := by decide +kernel
theorem dX4_least_34 : decode cX4_least 34 = .ok (.invokestatic 80, 3) := by decide +kernel
theorem dX4_least_37 : decode cX4_least 37 = .ok (.istore_n 2, 1) := by decide +kernel
theorem dX4_least_38 : decode cX4_least 38 = .ok (.iinc 3 1, 3) := by decide +kernel
theorem dX4_least_41 : decode cX4_least 41 = .ok (.goto (-35), 3) := by decide +kernel
theorem dX4_least_44 : decode cX4_least 44 = .ok (.iload_n 2, 1) := by decide +kernel
theorem dX4_least_45 : decode cX4_least 45 = .ok (.ireturn, 1) := by decide +kernel
theorem dX4_hottest_0 : decode cX4_hottest 0 = .ok (.iconst (-1), 1) := by decide +kernel
theorem dX4_hottest_1 : decode cX4_hottest 1 = .ok (.istore_n 2, 1) := by decide +kernel
theorem dX4_hottest_2 : decode cX4_hottest 2 = .ok (.iconst 0, 1) := by decide +kernel
theorem dX4_hottest_3 : decode cX4_hottest 3 = .ok (.istore_n 3, 1) := by decide +kernel
theorem dX4_hottest_4 : decode cX4_hottest 4 = .ok (.iload_n 3, 1) := by decide +kernel
theorem dX4_hottest_5 : decode cX4_hottest 5 = .ok (.aload_n 0, 1) := by decide +kernel
theorem dX4_hottest_6 : decode cX4_hottest 6 = .ok (.getfield 3, 3) := by decide +kernel
theorem dX4_hottest_9 : decode cX4_hottest 9 = .ok (.getfield 70, 3) := by decide +kernel
theorem dX4_hottest_12 : decode cX4_hottest 12 = .ok (.if_icmp .ge 30, 3) := by decide +kernel
theorem dX4_hottest_15 : decode cX4_hottest 15 = .ok (.aload_n 0, 1) := by decide +kernel
theorem dX4_hottest_16 : decode cX4_hottest 16 = .ok (.getfield 19, 3) := by decide +kernel
theorem dX4_hottest_19 : decode cX4_hottest 19 = .ok (.iload_n 3, 1) := by decide +kernel
theorem dX4_hottest_20 : decode cX4_hottest 20 = .ok (.iaload, 1) := by decide +kernel
theorem dX4_hottest_21 : decode cX4_hottest 21 = .ok (.iload_n 1, 1) := by decide +kernel
theorem dX4_hottest_22 : decode cX4_hottest 22 = .ok (.if_icmp .ne 14, 3) := by decide +kernel
theorem dX4_hottest_25 : decode cX4_hottest 25 = .ok (.iload_n 2, 1) := by decide +kernel
theorem dX4_hottest_26 : decode cX4_hottest 26 = .ok (.aload_n 0, 1) := by decide +kernel
theorem dX4_hottest_27 : decode cX4_hottest 27 = .ok (.getfield 15, 3) := by decide +kernel
theorem dX4_hottest_30 : decode cX4_hottest 30 = .ok (.iload_n 3, 1) := by decide +kernel
theorem dX4_hottest_31 : decode cX4_hottest 31 = .ok (.iaload, 1) := by decide +kernel
theorem dX4_hottest_32 : decode cX4_hottest 32 = .ok (.invokestatic 85, 3) := by decide +kernel
theorem dX4_hottest_35 : decode cX4_hottest 35 = .ok (.istore_n 2, 1) := by decide +kernel
theorem dX4_hottest_36 : decode cX4_hottest 36 = .ok (.iinc 3 1, 3) := by decide +kernel
theorem dX4_hottest_39 : decode cX4_hottest 39 = .ok (.goto (-35), 3) := by decide +kernel
theorem dX4_hottest_42 : decode cX4_hottest 42 = .ok (.iload_n 2, 1) := by decide +kernel
theorem dX4_hottest_43 : decode cX4_hottest 43 = .ok (.ireturn, 1) := by decide +kernel
theorem dX4_put_0 : decode cX4_put 0 = .ok (.aload_n 0, 1) := by decide +kernel
theorem dX4_put_1 : decode cX4_put 1 = .ok (.getfield 19, 3) := by decide +kernel
theorem dX4_put_4 : decode cX4_put 4 = .ok (.iload_n 1, 1) := by decide +kernel
theorem dX4_put_5 : decode cX4_put 5 = .ok (.iload_n 2, 1) := by decide +kernel
theorem dX4_put_6 : decode cX4_put 6 = .ok (.iastore, 1) := by decide +kernel
theorem dX4_put_7 : decode cX4_put 7 = .ok (.aload_n 0, 1) := by decide +kernel
theorem dX4_put_8 : decode cX4_put 8 = .ok (.getfield 22, 3) := by decide +kernel
theorem dX4_put_11 : decode cX4_put 11 = .ok (.iload_n 1, 1) := by decide +kernel
theorem dX4_put_12 : decode cX4_put 12 = .ok (.aload_n 0, 1) := by decide +kernel
theorem dX4_put_13 : decode cX4_put 13 = .ok (.getfield 50, 3) := by decide +kernel
theorem dX4_put_16 : decode cX4_put 16 = .ok (.iastore, 1) := by decide +kernel
theorem dX4_put_17 : decode cX4_put 17 = .ok (.aload_n 0, 1) := by decide +kernel
theorem dX4_put_18 : decode cX4_put 18 = .ok (.dup, 1) := by decide +kernel
theorem dX4_put_19 : decode cX4_put 19 = .ok (.getfield 50, 3) := by decide +kernel
theorem dX4_put_22 : decode cX4_put 22 = .ok (.iconst 1, 1) := by decide +kernel
theorem dX4_put_23 : decode cX4_put 23 = .ok (.iadd, 1) := by decide +kernel
theorem dX4_put_24 : decode cX4_put 24 = .ok (.putfield 50, 3) := by decide +kernel
theorem dX4_put_27 : decode cX4_put 27 = .ok (.return_, 1) := by decide +kernel
theorem dX4_move_0 : decode cX4_move 0 = .ok (.iconst 0, 1) := by decide +kernel
theorem dX4_move_1 : decode cX4_move 1 = .ok (.istore_n 3, 1) := by decide +kernel
theorem dX4_move_2 : decode cX4_move 2 = .ok (.iload_n 3, 1) := by decide +kernel
theorem dX4_move_3 : decode cX4_move 3 = .ok (.iload_n 1, 1) := by decide +kernel
theorem dX4_move_4 : decode cX4_move 4 = .ok (.if_icmp .ge 35, 3) := by decide +kernel
theorem dX4_move_7 : decode cX4_move 7 = .ok (.aload_n 0, 1) := by decide +kernel
theorem dX4_move_8 : decode cX4_move 8 = .ok (.aload_n 0, 1) := by decide +kernel
theorem dX4_move_9 : decode cX4_move 9 = .ok (.getfield 37, 3) := by decide +kernel
theorem dX4_move_12 : decode cX4_move 12 = .ok (.iload_n 3, 1) := by decide +kernel
theorem dX4_move_13 : decode cX4_move 13 = .ok (.iaload, 1) := by decide +kernel
theorem dX4_move_14 : decode cX4_move 14 = .ok (.iload_n 2, 1) := by decide +kernel
theorem dX4_move_15 : decode cX4_move 15 = .ok (.invokevirtual 88, 3) := by decide +kernel
theorem dX4_move_18 : decode cX4_move 18 = .ok (.aload_n 0, 1) := by decide +kernel
theorem dX4_move_19 : decode cX4_move 19 = .ok (.getfield 25, 3) := by decide +kernel
theorem dX4_move_22 : decode cX4_move 22 = .ok (.aload_n 0, 1) := by decide +kernel
theorem dX4_move_23 : decode cX4_move 23 = .ok (.getfield 37, 3) := by decide +kernel
theorem dX4_move_26 : decode cX4_move 26 = .ok (.iload_n 3, 1) := by decide +kernel
theorem dX4_move_27 : decode cX4_move 27 = .ok (.iaload, 1) := by decide +kernel
theorem dX4_move_28 : decode cX4_move 28 = .ok (.dup2, 1) := by decide +kernel
theorem dX4_move_29 : decode cX4_move 29 = .ok (.iaload, 1) := by decide +kernel
theorem dX4_move_30 : decode cX4_move 30 = .ok (.iconst 1, 1) := by decide +kernel
theorem dX4_move_31 : decode cX4_move 31 = .ok (.iadd, 1) := by decide +kernel
theorem dX4_move_32 : decode cX4_move 32 = .ok (.iastore, 1) := by decide +kernel
theorem dX4_move_33 : decode cX4_move 33 = .ok (.iinc 3 1, 3) := by decide +kernel
theorem dX4_move_36 : decode cX4_move 36 = .ok (.goto (-34), 3) := by decide +kernel
theorem dX4_move_39 : decode cX4_move 39 = .ok (.aload_n 0, 1) := by decide +kernel
theorem dX4_move_40 : decode cX4_move 40 = .ok (.dup, 1) := by decide +kernel
theorem dX4_move_41 : decode cX4_move 41 = .ok (.getfield 54, 3) := by decide +kernel
theorem dX4_move_44 : decode cX4_move 44 = .ok (.iload_n 1, 1) := by decide +kernel
theorem dX4_move_45 : decode cX4_move 45 = .ok (.iadd, 1) := by decide +kernel
theorem dX4_move_46 : decode cX4_move 46 = .ok (.putfield 54, 3) := by decide +kernel
theorem dX4_move_49 : decode cX4_move 49 = .ok (.iload_n 1, 1) := by decide +kernel
theorem dX4_move_50 : decode cX4_move 50 = .ok (.ireturn, 1) := by decide +kernel
theorem dX4_rake_0 : decode cX4_rake 0 = .ok (.aload_n 0, 1) := by decide +kernel
theorem dX4_rake_1 : decode cX4_rake 1 = .ok (.iload_n 1, 1) := by decide +kernel
theorem dX4_rake_2 : decode cX4_rake 2 = .ok (.iconst 1, 1) := by decide +kernel
theorem dX4_rake_3 : decode cX4_rake 3 = .ok (.invokevirtual 92, 3) := by decide +kernel
theorem dX4_rake_6 : decode cX4_rake 6 = .ok (.ifCond .le 33, 3) := by decide +kernel
theorem dX4_rake_9 : decode cX4_rake 9 = .ok (.aload_n 0, 1) := by decide +kernel
theorem dX4_rake_10 : decode cX4_rake 10 = .ok (.iload_n 1, 1) := by decide +kernel
theorem dX4_rake_11 : decode cX4_rake 11 = .ok (.aload_n 0, 1) := by decide +kernel
theorem dX4_rake_12 : decode cX4_rake 12 = .ok (.iload_n 1, 1) := by decide +kernel
theorem dX4_rake_13 : decode cX4_rake 13 = .ok (.iconst 1, 1) := by decide +kernel
theorem dX4_rake_14 : decode cX4_rake 14 = .ok (.invokevirtual 92, 3) := by decide +kernel
theorem dX4_rake_17 : decode cX4_rake 17 = .ok (.invokevirtual 96, 3) := by decide +kernel
theorem dX4_rake_20 : decode cX4_rake 20 = .ok (.istore_n 2, 1) := by decide +kernel
theorem dX4_rake_21 : decode cX4_rake 21 = .ok (.aload_n 0, 1) := by decide +kernel
theorem dX4_rake_22 : decode cX4_rake 22 = .ok (.getfield 31, 3) := by decide +kernel
theorem dX4_rake_25 : decode cX4_rake 25 = .ok (.iload_n 1, 1) := by decide +kernel
theorem dX4_rake_26 : decode cX4_rake 26 = .ok (.aload_n 0, 1) := by decide +kernel
theorem dX4_rake_27 : decode cX4_rake 27 = .ok (.iload_n 1, 1) := by decide +kernel
theorem dX4_rake_28 : decode cX4_rake 28 = .ok (.invokevirtual 99, 3) := by decide +kernel
theorem dX4_rake_31 : decode cX4_rake 31 = .ok (.iastore, 1) := by decide +kernel
theorem dX4_rake_32 : decode cX4_rake 32 = .ok (.aload_n 0, 1) := by decide +kernel
theorem dX4_rake_33 : decode cX4_rake 33 = .ok (.iload_n 2, 1) := by decide +kernel
theorem dX4_rake_34 : decode cX4_rake 34 = .ok (.iload_n 1, 1) := by decide +kernel
theorem dX4_rake_35 : decode cX4_rake 35 = .ok (.invokevirtual 102, 3) := by decide +kernel
theorem dX4_rake_38 : decode cX4_rake 38 = .ok (.pop, 1) := by decide +kernel
theorem dX4_rake_39 : decode cX4_rake 39 = .ok (.aload_n 0, 1) := by decide +kernel
theorem dX4_rake_40 : decode cX4_rake 40 = .ok (.iload_n 1, 1) := by decide +kernel
theorem dX4_rake_41 : decode cX4_rake 41 = .ok (.iconst 0, 1) := by decide +kernel
theorem dX4_rake_42 : decode cX4_rake 42 = .ok (.invokevirtual 96, 3) := by decide +kernel
theorem dX4_rake_45 : decode cX4_rake 45 = .ok (.pop, 1) := by decide +kernel
theorem dX4_rake_46 : decode cX4_rake 46 = .ok (.aload_n 0, 1) := by decide +kernel
theorem dX4_rake_47 : decode cX4_rake 47 = .ok (.getfield 37, 3) := by decide +kernel
theorem dX4_rake_50 : decode cX4_rake 50 = .ok (.iconst 0, 1) := by decide +kernel
theorem dX4_rake_51 : decode cX4_rake 51 = .ok (.iaload, 1) := by decide +kernel
theorem dX4_rake_52 : decode cX4_rake 52 = .ok (.istore_n 2, 1) := by decide +kernel
theorem dX4_rake_53 : decode cX4_rake 53 = .ok (.aload_n 0, 1) := by decide +kernel
theorem dX4_rake_54 : decode cX4_rake 54 = .ok (.getfield 19, 3) := by decide +kernel
theorem dX4_rake_57 : decode cX4_rake 57 = .ok (.iload_n 2, 1) := by decide +kernel
theorem dX4_rake_58 : decode cX4_rake 58 = .ok (.iconst (-1), 1) := by decide +kernel
theorem dX4_rake_59 : decode cX4_rake 59 = .ok (.iastore, 1) := by decide +kernel
theorem dX4_rake_60 : decode cX4_rake 60 = .ok (.aload_n 0, 1) := by decide +kernel
theorem dX4_rake_61 : decode cX4_rake 61 = .ok (.getfield 28, 3) := by decide +kernel
theorem dX4_rake_64 : decode cX4_rake 64 = .ok (.iload_n 2, 1) := by decide +kernel
theorem dX4_rake_65 : decode cX4_rake 65 = .ok (.iconst 1, 1) := by decide +kernel
theorem dX4_rake_66 : decode cX4_rake 66 = .ok (.iastore, 1) := by decide +kernel
theorem dX4_rake_67 : decode cX4_rake 67 = .ok (.aload_n 0, 1) := by decide +kernel
theorem dX4_rake_68 : decode cX4_rake 68 = .ok (.getfield 34, 3) := by decide +kernel
theorem dX4_rake_71 : decode cX4_rake 71 = .ok (.iload_n 1, 1) := by decide +kernel
theorem dX4_rake_72 : decode cX4_rake 72 = .ok (.dup2, 1) := by decide +kernel
theorem dX4_rake_73 : decode cX4_rake 73 = .ok (.iaload, 1) := by decide +kernel
theorem dX4_rake_74 : decode cX4_rake 74 = .ok (.iconst 1, 1) := by decide +kernel
theorem dX4_rake_75 : decode cX4_rake 75 = .ok (.iadd, 1) := by decide +kernel
theorem dX4_rake_76 : decode cX4_rake 76 = .ok (.iastore, 1) := by decide +kernel
theorem dX4_rake_77 : decode cX4_rake 77 = .ok (.iload_n 2, 1) := by decide +kernel
theorem dX4_rake_78 : decode cX4_rake 78 = .ok (.ireturn, 1) := by decide +kernel
theorem dX4_rakeOn_0 : decode cX4_rakeOn 0 = .ok (.aload_n 0, 1) := by decide +kernel
theorem dX4_rakeOn_1 : decode cX4_rakeOn 1 = .ok (.getfield 54, 3) := by decide +kernel
theorem dX4_rakeOn_4 : decode cX4_rakeOn 4 = .ok (.istore_n 3, 1) := by decide +kernel
theorem dX4_rakeOn_5 : decode cX4_rakeOn 5 = .ok (.iconst 0, 1) := by decide +kernel
theorem dX4_rakeOn_6 : decode cX4_rakeOn 6 = .ok (.istore 4, 2) := by decide +kernel
theorem dX4_rakeOn_8 : decode cX4_rakeOn 8 = .ok (.iload 4, 2) := by decide +kernel
theorem dX4_rakeOn_10 : decode cX4_rakeOn 10 = .ok (.iload_n 2, 1) := by decide +kernel
theorem dX4_rakeOn_11 : decode cX4_rakeOn 11 = .ok (.if_icmp .ge 15, 3) := by decide +kernel
theorem dX4_rakeOn_14 : decode cX4_rakeOn 14 = .ok (.aload_n 0, 1) := by decide +kernel
theorem dX4_rakeOn_15 : decode cX4_rakeOn 15 = .ok (.iload_n 1, 1) := by decide +kernel
theorem dX4_rakeOn_16 : decode cX4_rakeOn 16 = .ok (.invokevirtual 105, 3) := by decide +kernel
theorem dX4_rakeOn_19 : decode cX4_rakeOn 19 = .ok (.pop, 1) := by decide +kernel
theorem dX4_rakeOn_20 : decode cX4_rakeOn 20 = .ok (.iinc 4 1, 3) := by decide +kernel
theorem dX4_rakeOn_23 : decode cX4_rakeOn 23 = .ok (.goto (-15), 3) := by decide +kernel
theorem dX4_rakeOn_26 : decode cX4_rakeOn 26 = .ok (.aload_n 0, 1) := by decide +kernel
theorem dX4_rakeOn_27 : decode cX4_rakeOn 27 = .ok (.getfield 54, 3) := by decide +kernel
theorem dX4_rakeOn_30 : decode cX4_rakeOn 30 = .ok (.iload_n 3, 1) := by decide +kernel
theorem dX4_rakeOn_31 : decode cX4_rakeOn 31 = .ok (.isub, 1) := by decide +kernel
theorem dX4_rakeOn_32 : decode cX4_rakeOn 32 = .ok (.ireturn, 1) := by decide +kernel
theorem dX4_raise_0 : decode cX4_raise 0 = .ok (.iload_n 2, 1) := by decide +kernel
theorem dX4_raise_1 : decode cX4_raise 1 = .ok (.aload_n 0, 1) := by decide +kernel
theorem dX4_raise_2 : decode cX4_raise 2 = .ok (.getfield 31, 3) := by decide +kernel
theorem dX4_raise_5 : decode cX4_raise 5 = .ok (.iload_n 1, 1) := by decide +kernel
theorem dX4_raise_6 : decode cX4_raise 6 = .ok (.iaload, 1) := by decide +kernel
theorem dX4_raise_7 : decode cX4_raise 7 = .ok (.if_icmp .ne 5, 3) := by decide +kernel
theorem dX4_raise_10 : decode cX4_raise 10 = .ok (.iconst 0, 1) := by decide +kernel
theorem dX4_raise_11 : decode cX4_raise 11 = .ok (.ireturn, 1) := by decide +kernel
theorem dX4_raise_12 : decode cX4_raise 12 = .ok (.aload_n 0, 1) := by decide +kernel
theorem dX4_raise_13 : decode cX4_raise 13 = .ok (.iload_n 1, 1) := by decide +kernel
theorem dX4_raise_14 : decode cX4_raise 14 = .ok (.invokevirtual 108, 3) := by decide +kernel
theorem dX4_raise_17 : decode cX4_raise 17 = .ok (.istore_n 3, 1) := by decide +kernel
theorem dX4_raise_18 : decode cX4_raise 18 = .ok (.aload_n 0, 1) := by decide +kernel
theorem dX4_raise_19 : decode cX4_raise 19 = .ok (.getfield 31, 3) := by decide +kernel
theorem dX4_raise_22 : decode cX4_raise 22 = .ok (.iload_n 1, 1) := by decide +kernel
theorem dX4_raise_23 : decode cX4_raise 23 = .ok (.iload_n 2, 1) := by decide +kernel
theorem dX4_raise_24 : decode cX4_raise 24 = .ok (.iastore, 1) := by decide +kernel
theorem dX4_raise_25 : decode cX4_raise 25 = .ok (.aload_n 0, 1) := by decide +kernel
theorem dX4_raise_26 : decode cX4_raise 26 = .ok (.iload_n 3, 1) := by decide +kernel
theorem dX4_raise_27 : decode cX4_raise 27 = .ok (.iload_n 1, 1) := by decide +kernel
theorem dX4_raise_28 : decode cX4_raise 28 = .ok (.invokevirtual 102, 3) := by decide +kernel
theorem dX4_raise_31 : decode cX4_raise 31 = .ok (.ireturn, 1) := by decide +kernel
theorem dX4_pour_0 : decode cX4_pour 0 = .ok (.aload_n 0, 1) := by decide +kernel
theorem dX4_pour_1 : decode cX4_pour 1 = .ok (.iload_n 1, 1) := by decide +kernel
theorem dX4_pour_2 : decode cX4_pour 2 = .ok (.invokevirtual 108, 3) := by decide +kernel
theorem dX4_pour_5 : decode cX4_pour 5 = .ok (.istore_n 2, 1) := by decide +kernel
theorem dX4_pour_6 : decode cX4_pour 6 = .ok (.aload_n 0, 1) := by decide +kernel
theorem dX4_pour_7 : decode cX4_pour 7 = .ok (.getfield 31, 3) := by decide +kernel
theorem dX4_pour_10 : decode cX4_pour 10 = .ok (.iload_n 1, 1) := by decide +kernel
theorem dX4_pour_11 : decode cX4_pour 11 = .ok (.iconst 0, 1) := by decide +kernel
theorem dX4_pour_12 : decode cX4_pour 12 = .ok (.iastore, 1) := by decide +kernel
theorem dX4_pour_13 : decode cX4_pour 13 = .ok (.aload_n 0, 1) := by decide +kernel
theorem dX4_pour_14 : decode cX4_pour 14 = .ok (.iload_n 2, 1) := by decide +kernel
theorem dX4_pour_15 : decode cX4_pour 15 = .ok (.iconst 1, 1) := by decide +kernel
theorem dX4_pour_16 : decode cX4_pour 16 = .ok (.iload_n 1, 1) := by decide +kernel
theorem dX4_pour_17 : decode cX4_pour 17 = .ok (.isub, 1) := by decide +kernel
theorem dX4_pour_18 : decode cX4_pour 18 = .ok (.invokevirtual 102, 3) := by decide +kernel
theorem dX4_pour_21 : decode cX4_pour 21 = .ok (.ireturn, 1) := by decide +kernel
