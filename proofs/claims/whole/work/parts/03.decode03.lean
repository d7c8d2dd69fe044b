theorem dX5_letters_0 : decode cX5_letters 0 = .ok (.aload_n 0, 1) := by decide +kernel
theorem dX5_letters_1 : decode cX5_letters 1 = .ok (.iload_n 1, 1) := by decide +kernel
theorem dX5_letters_2 : decode cX5_letters 2 = .ok (.invokevirtual 114, 3) := by decide +kernel
theorem dX5_letters_5 : decode cX5_letters 5 = .ok (.ifCond .eq 32, 3) := by decide +kernel
theorem dX5_letters_8 : decode cX5_letters 8 = .ok (.iload_n 2, 1) := by decide +kernel
theorem dX5_letters_9 : decode cX5_letters 9 = .ok (.invokestatic 152, 3) := by decide +kernel
theorem dX5_letters_12 : decode cX5_letters 12 = .ok (.ifCond .eq 25, 3) := by decide +kernel
theorem dX5_letters_15 : decode cX5_letters 15 = .ok (.iload_n 3, 1) := by decide +kernel
theorem dX5_letters_16 : decode cX5_letters 16 = .ok (.invokestatic 152, 3) := by decide +kernel
theorem dX5_letters_19 : decode cX5_letters 19 = .ok (.ifCond .eq 18, 3) := by decide +kernel
theorem dX5_letters_22 : decode cX5_letters 22 = .ok (.iload_n 2, 1) := by decide +kernel
theorem dX5_letters_23 : decode cX5_letters 23 = .ok (.iload_n 3, 1) := by decide +kernel
theorem dX5_letters_24 : decode cX5_letters 24 = .ok (.if_icmp .gt 13, 3) := by decide +kernel
theorem dX5_letters_27 : decode cX5_letters 27 = .ok (.aload_n 0, 1) := by decide +kernel
theorem dX5_letters_28 : decode cX5_letters 28 = .ok (.iload_n 1, 1) := by decide +kernel
theorem dX5_letters_29 : decode cX5_letters 29 = .ok (.iload_n 2, 1) := by decide +kernel
theorem dX5_letters_30 : decode cX5_letters 30 = .ok (.iload_n 3, 1) := by decide +kernel
theorem dX5_letters_31 : decode cX5_letters 31 = .ok (.invokevirtual 163, 3) := by decide +kernel
theorem dX5_letters_34 : decode cX5_letters 34 = .ok (.goto 9, 3) := by decide +kernel
theorem dX5_letters_37 : decode cX5_letters 37 = .ok (.aload_n 0, 1) := by decide +kernel
theorem dX5_letters_38 : decode cX5_letters 38 = .ok (.ldc 40, 2) := by decide +kernel
theorem dX5_letters_40 : decode cX5_letters 40 = .ok (.invokevirtual 59, 3) := by decide +kernel
theorem dX5_letters_43 : decode cX5_letters 43 = .ok (.ireturn, 1) := by decide +kernel
theorem dX5_apart_0 : decode cX5_apart 0 = .ok (.aload_n 0, 1) := by decide +kernel
theorem dX5_apart_1 : decode cX5_apart 1 = .ok (.getfield 7, 3) := by decide +kernel
theorem dX5_apart_4 : decode cX5_apart 4 = .ok (.iload_n 1, 1) := by decide +kernel
theorem dX5_apart_5 : decode cX5_apart 5 = .ok (.iconst 1, 1) := by decide +kernel
theorem dX5_apart_6 : decode cX5_apart 6 = .ok (.iload_n 2, 1) := by decide +kernel
theorem dX5_apart_7 : decode cX5_apart 7 = .ok (.invokestatic 49, 3) := by decide +kernel
theorem dX5_apart_10 : decode cX5_apart 10 = .ok (.iaload, 1) := by decide +kernel
theorem dX5_apart_11 : decode cX5_apart 11 = .ok (.aload_n 0, 1) := by decide +kernel
theorem dX5_apart_12 : decode cX5_apart 12 = .ok (.getfield 7, 3) := by decide +kernel
theorem dX5_apart_15 : decode cX5_apart 15 = .ok (.iload_n 1, 1) := by decide +kernel
theorem dX5_apart_16 : decode cX5_apart 16 = .ok (.iconst 0, 1) := by decide +kernel
theorem dX5_apart_17 : decode cX5_apart 17 = .ok (.iload_n 2, 1) := by decide +kernel
theorem dX5_apart_18 : decode cX5_apart 18 = .ok (.invokestatic 49, 3) := by decide +kernel
theorem dX5_apart_21 : decode cX5_apart 21 = .ok (.iaload, 1) := by decide +kernel
theorem dX5_apart_22 : decode cX5_apart 22 = .ok (.isub, 1) := by decide +kernel
theorem dX5_apart_23 : decode cX5_apart 23 = .ok (.ireturn, 1) := by decide +kernel
theorem dX5_size_0 : decode cX5_size 0 = .ok (.iload_n 0, 1) := by decide +kernel
theorem dX5_size_1 : decode cX5_size 1 = .ok (.ifCond .ge 9, 3) := by decide +kernel
theorem dX5_size_4 : decode cX5_size 4 = .ok (.iconst 0, 1) := by decide +kernel
theorem dX5_size_5 : decode cX5_size 5 = .ok (.iload_n 0, 1) := by decide +kernel
theorem dX5_size_6 : decode cX5_size 6 = .ok (.isub, 1) := by decide +kernel
theorem dX5_size_7 : decode cX5_size 7 = .ok (.goto 4, 3) := by decide +kernel
theorem dX5_size_10 : decode cX5_size 10 = .ok (.iload_n 0, 1) := by decide +kernel
theorem dX5_size_11 : decode cX5_size 11 = .ok (.ireturn, 1) := by decide +kernel
theorem dX5_lean_0 : decode cX5_lean 0 = .ok (.iconst 0, 1) := by decide +kernel
theorem dX5_lean_1 : decode cX5_lean 1 = .ok (.istore_n 1, 1) := by decide +kernel
theorem dX5_lean_2 : decode cX5_lean 2 = .ok (.iconst 0, 1) := by decide +kernel
theorem dX5_lean_3 : decode cX5_lean 3 = .ok (.istore_n 2, 1) := by decide +kernel
theorem dX5_lean_4 : decode cX5_lean 4 = .ok (.iload_n 2, 1) := by decide +kernel
theorem dX5_lean_5 : decode cX5_lean 5 = .ok (.aload_n 0, 1) := by decide +kernel
theorem dX5_lean_6 : decode cX5_lean 6 = .ok (.getfield 7, 3) := by decide +kernel
theorem dX5_lean_9 : decode cX5_lean 9 = .ok (.bipush 17, 2) := by decide +kernel
theorem dX5_lean_11 : decode cX5_lean 11 = .ok (.iaload, 1) := by decide +kernel
theorem dX5_lean_12 : decode cX5_lean 12 = .ok (.if_icmp .ge 32, 3) := by decide +kernel
theorem dX5_lean_15 : decode cX5_lean 15 = .ok (.iconst 0, 1) := by decide +kernel
theorem dX5_lean_16 : decode cX5_lean 16 = .ok (.istore_n 3, 1) := by decide +kernel
theorem dX5_lean_17 : decode cX5_lean 17 = .ok (.iload_n 3, 1) := by decide +kernel
theorem dX5_lean_18 : decode cX5_lean 18 = .ok (.bipush 8, 2) := by decide +kernel
theorem dX5_lean_20 : decode cX5_lean 20 = .ok (.if_icmp .ge 18, 3) := by decide +kernel
theorem dX5_lean_23 : decode cX5_lean 23 = .ok (.iload_n 1, 1) := by decide +kernel
theorem dX5_lean_24 : decode cX5_lean 24 = .ok (.aload_n 0, 1) := by decide +kernel
theorem dX5_lean_25 : decode cX5_lean 25 = .ok (.iload_n 2, 1) := by decide +kernel
theorem dX5_lean_26 : decode cX5_lean 26 = .ok (.iload_n 3, 1) := by decide +kernel
theorem dX5_lean_27 : decode cX5_lean 27 = .ok (.invokevirtual 166, 3) := by decide +kernel
theorem dX5_lean_30 : decode cX5_lean 30 = .ok (.iadd, 1) := by decide +kernel
theorem dX5_lean_31 : decode cX5_lean 31 = .ok (.istore_n 1, 1) := by decide +kernel
theorem dX5_lean_32 : decode cX5_lean 32 = .ok (.iinc 3 1, 3) := by decide +kernel
theorem dX5_lean_35 : decode cX5_lean 35 = .ok (.goto (-18), 3) := by decide +kernel
theorem dX5_lean_38 : decode cX5_lean 38 = .ok (.iinc 2 1, 3) := by decide +kernel
theorem dX5_lean_41 : decode cX5_lean 41 = .ok (.goto (-37), 3) := by decide +kernel
theorem dX5_lean_44 : decode cX5_lean 44 = .ok (.aload_n 0, 1) := by decide +kernel
theorem dX5_lean_45 : decode cX5_lean 45 = .ok (.getfield 7, 3) := by decide +kernel
theorem dX5_lean_48 : decode cX5_lean 48 = .ok (.bipush 17, 2) := by decide +kernel
theorem dX5_lean_50 : decode cX5_lean 50 = .ok (.iaload, 1) := by decide +kernel
theorem dX5_lean_51 : decode cX5_lean 51 = .ok (.ifCond .ne 7, 3) := by decide +kernel
theorem dX5_lean_54 : decode cX5_lean 54 = .ok (.iconst 0, 1) := by decide +kernel
theorem dX5_lean_55 : decode cX5_lean 55 = .ok (.goto 15, 3) := by decide +kernel
theorem dX5_lean_58 : decode cX5_lean 58 = .ok (.bipush 100, 2) := by decide +kernel
theorem dX5_lean_60 : decode cX5_lean 60 = .ok (.iload_n 1, 1) := by decide +kernel
theorem dX5_lean_61 : decode cX5_lean 61 = .ok (.imul, 1) := by decide +kernel
theorem dX5_lean_62 : decode cX5_lean 62 = .ok (.aload_n 0, 1) := by decide +kernel
theorem dX5_lean_63 : decode cX5_lean 63 = .ok (.getfield 7, 3) := by decide +kernel
theorem dX5_lean_66 : decode cX5_lean 66 = .ok (.bipush 17, 2) := by decide +kernel
theorem dX5_lean_68 : decode cX5_lean 68 = .ok (.iaload, 1) := by decide +kernel
theorem dX5_lean_69 : decode cX5_lean 69 = .ok (.idiv, 1) := by decide +kernel
theorem dX5_lean_70 : decode cX5_lean 70 = .ok (.ireturn, 1) := by decide +kernel
theorem dX5_right_0 : decode cX5_right 0 = .ok (.iload_n 1, 1) := by decide +kernel
theorem dX5_right_1 : decode cX5_right 1 = .ok (.i2l, 1) := by decide +kernel
theorem dX5_right_2 : decode cX5_right 2 = .ok (.lconst 1, 1) := by decide +kernel
theorem dX5_right_3 : decode cX5_right 3 = .ok (.ldc2_w 57, 3) := by decide +kernel
theorem dX5_right_6 : decode cX5_right 6 = .ok (.invokestatic 43, 3) := by decide +kernel
theorem dX5_right_9 : decode cX5_right 9 = .ok (.ifCond .ne 10, 3) := by decide +kernel
theorem dX5_right_12 : decode cX5_right 12 = .ok (.aload_n 0, 1) := by decide +kernel
theorem dX5_right_13 : decode cX5_right 13 = .ok (.ldc 40, 2) := by decide +kernel
theorem dX5_right_15 : decode cX5_right 15 = .ok (.invokevirtual 59, 3) := by decide +kernel
theorem dX5_right_18 : decode cX5_right 18 = .ok (.ireturn, 1) := by decide +kernel
theorem dX5_right_19 : decode cX5_right 19 = .ok (.iconst 0, 1) := by decide +kernel
theorem dX5_right_20 : decode cX5_right 20 = .ok (.istore_n 2, 1) := by decide +kernel
theorem dX5_right_21 : decode cX5_right 21 = .ok (.iconst 0, 1) := by decide +kernel
theorem dX5_right_22 : decode cX5_right 22 = .ok (.istore_n 3, 1) := by decide +kernel
theorem dX5_right_23 : decode cX5_right 23 = .ok (.iload_n 3, 1) := by decide +kernel
theorem dX5_right_24 : decode cX5_right 24 = .ok (.aload_n 0, 1) := by decide +kernel
theorem dX5_right_25 : decode cX5_right 25 = .ok (.getfield 7, 3) := by decide +kernel
theorem dX5_right_28 : decode cX5_right 28 = .ok (.bipush 17, 2) := by decide +kernel
theorem dX5_right_30 : decode cX5_right 30 = .ok (.iaload, 1) := by decide +kernel
theorem dX5_right_31 : decode cX5_right 31 = .ok (.if_icmp .ge 66, 3) := by decide +kernel
theorem dX5_right_34 : decode cX5_right 34 = .ok (.iconst 0, 1) := by decide +kernel
theorem dX5_right_35 : decode cX5_right 35 = .ok (.istore 4, 2) := by decide +kernel
theorem dX5_right_37 : decode cX5_right 37 = .ok (.iload 4, 2) := by decide +kernel
theorem dX5_right_39 : decode cX5_right 39 = .ok (.bipush 8, 2) := by decide +kernel
theorem dX5_right_41 : decode cX5_right 41 = .ok (.if_icmp .ge 50, 3) := by decide +kernel
theorem dX5_right_44 : decode cX5_right 44 = .ok (.aload_n 0, 1) := by decide +kernel
theorem dX5_right_45 : decode cX5_right 45 = .ok (.iload_n 3, 1) := by decide +kernel
theorem dX5_right_46 : decode cX5_right 46 = .ok (.iload 4, 2) := by decide +kernel
theorem dX5_right_48 : decode cX5_right 48 = .ok (.invokevirtual 166, 3) := by decide +kernel
theorem dX5_right_51 : decode cX5_right 51 = .ok (.invokestatic 169, 3) := by decide +kernel
theorem dX5_right_54 : decode cX5_right 54 = .ok (.iload_n 1, 1) := by decide +kernel
theorem dX5_right_55 : decode cX5_right 55 = .ok (.if_icmp .lt 30, 3) := by decide +kernel
theorem dX5_right_58 : decode cX5_right 58 = .ok (.aload_n 0, 1) := by decide +kernel
theorem dX5_right_59 : decode cX5_right 59 = .ok (.getfield 7, 3) := by decide +kernel
theorem dX5_right_62 : decode cX5_right 62 = .ok (.iload_n 3, 1) := by decide +kernel
theorem dX5_right_63 : decode cX5_right 63 = .ok (.iconst 1, 1) := by decide +kernel
theorem dX5_right_64 : decode cX5_right 64 = .ok (.iload 4, 2) := by decide +kernel
theorem dX5_right_66 : decode cX5_right 66 = .ok (.invokestatic 49, 3) := by decide +kernel
theorem dX5_right_69 : decode cX5_right 69 = .ok (.aload_n 0, 1) := by decide +kernel
theorem dX5_right_70 : decode cX5_right 70 = .ok (.getfield 7, 3) := by decide +kernel
theorem dX5_right_73 : decode cX5_right 73 = .ok (.iload_n 3, 1) := by decide +kernel
theorem dX5_right_74 : decode cX5_right 74 = .ok (.iconst 0, 1) := by decide +kernel
theorem dX5_right_75 : decode cX5_right 75 = .ok (.iload 4, 2) := by decide +kernel
theorem dX5_right_77 : decode cX5_right 77 = .ok (.invokestatic 49, 3) := by decide +kernel
theorem dX5_right_80 : decode cX5_right 80 = .ok (.iaload, 1) := by decide +kernel
theorem dX5_right_81 : decode cX5_right 81 = .ok (.iastore, 1) := by decide +kernel
theorem dX5_right_82 : decode cX5_right 82 = .ok (.iinc 2 1, 3) := by decide +kernel
theorem dX5_right_85 : decode cX5_right 85 = .ok (.iinc 4 1, 3) := by decide +kernel
theorem dX5_right_88 : decode cX5_right 88 = .ok (.goto (-51), 3) := by decide +kernel
theorem dX5_right_91 : decode cX5_right 91 = .ok (.iinc 3 1, 3) := by decide +kernel
theorem dX5_right_94 : decode cX5_right 94 = .ok (.goto (-71), 3) := by decide +kernel
theorem dX5_right_97 : decode cX5_right 97 = .ok (.iload_n 2, 1) := by decide +kernel
theorem dX5_right_98 : decode cX5_right 98 = .ok (.ireturn, 1) := by decide +kernel
theorem dX5_unlike_0 : decode cX5_unlike 0 = .ok (.iload_n 1, 1) := by decide +kernel
theorem dX5_unlike_1 : decode cX5_unlike 1 = .ok (.i2l, 1) := by decide +kernel
theorem dX5_unlike_2 : decode cX5_unlike 2 = .ok (.lconst 0, 1) := by decide +kernel
theorem dX5_unlike_3 : decode cX5_unlike 3 = .ok (.lconst 1, 1) := by decide +kernel
theorem dX5_unlike_4 : decode cX5_unlike 4 = .ok (.invokestatic 43, 3) := by decide +kernel
theorem dX5_unlike_7 : decode cX5_unlike 7 = .ok (.ifCond .ne 10, 3) := by decide +kernel
theorem dX5_unlike_10 : decode cX5_unlike 10 = .ok (.aload_n 0, 1) := by decide +kernel
theorem dX5_unlike_11 : decode cX5_unlike 11 = .ok (.ldc 40, 2) := by decide +kernel
theorem dX5_unlike_13 : decode cX5_unlike 13 = .ok (.invokevirtual 59, 3) := by decide +kernel
theorem dX5_unlike_16 : decode cX5_unlike 16 = .ok (.ireturn, 1) := by decide +kernel
theorem dX5_unlike_17 : decode cX5_unlike 17 = .ok (.iconst (-1), 1) := by decide +kernel
theorem dX5_unlike_18 : decode cX5_unlike 18 = .ok (.istore_n 2, 1) := by decide +kernel
theorem dX5_unlike_19 : decode cX5_unlike 19 = .ok (.iconst (-1), 1) := by decide +kernel
theorem dX5_unlike_20 : decode cX5_unlike 20 = .ok (.istore_n 3, 1) := by decide +kernel
theorem dX5_unlike_21 : decode cX5_unlike 21 = .ok (.iconst 0, 1) := by decide +kernel
theorem dX5_unlike_22 : decode cX5_unlike 22 = .ok (.istore 4, 2) := by decide +kernel
theorem dX5_unlike_24 : decode cX5_unlike 24 = .ok (.iload 4, 2) := by decide +kernel
theorem dX5_unlike_26 : decode cX5_unlike 26 = .ok (.aload_n 0, 1) := by decide +kernel
theorem dX5_unlike_27 : decode cX5_unlike 27 = .ok (.getfield 7, 3) := by decide +kernel
theorem dX5_unlike_30 : decode cX5_unlike 30 = .ok (.bipush 17, 2) := by decide +kernel
theorem dX5_unlike_32 : decode cX5_unlike 32 = .ok (.iaload, 1) := by decide +kernel
theorem dX5_unlike_33 : decode cX5_unlike 33 = .ok (.if_icmp .ge 56, 3) := by decide +kernel
theorem dX5_unlike_36 : decode cX5_unlike 36 = .ok (.iconst 0, 1) := by decide +kernel
theorem dX5_unlike_37 : decode cX5_unlike 37 = .ok (.istore 5, 2) := by decide +kernel
theorem dX5_unlike_39 : decode cX5_unlike 39 = .ok (.iconst 0, 1) := by decide +kernel
theorem dX5_unlike_40 : decode cX5_unlike 40 = .ok (.istore 6, 2) := by decide +kernel
theorem dX5_unlike_42 : decode cX5_unlike 42 = .ok (.iload 6, 2) := by decide +kernel
theorem dX5_unlike_44 : decode cX5_unlike 44 = .ok (.bipush 8, 2) := by decide +kernel
theorem dX5_unlike_46 : decode cX5_unlike 46 = .ok (.if_icmp .ge 25, 3) := by decide +kernel
theorem dX5_unlike_49 : decode cX5_unlike 49 = .ok (.iload 5, 2) := by decide +kernel
theorem dX5_unlike_51 : decode cX5_unlike 51 = .ok (.aload_n 0, 1) := by decide +kernel
theorem dX5_unlike_52 : decode cX5_unlike 52 = .ok (.iload 4, 2) := by decide +kernel
theorem dX5_unlike_54 : decode cX5_unlike 54 = .ok (.iload 6, 2) := by decide +kernel
theorem dX5_unlike_56 : decode cX5_unlike 56 = .ok (.invokevirtual 166, 3) := by decide +kernel
theorem dX5_unlike_59 : decode cX5_unlike 59 = .ok (.invokestatic 169, 3) := by decide +kernel
theorem dX5_unlike_62 : decode cX5_unlike 62 = .ok (.iadd, 1) := by decide +kernel
theorem dX5_unlike_63 : decode cX5_unlike 63 = .ok (.istore 5, 2) := by decide +kernel
theorem dX5_unlike_65 : decode cX5_unlike 65 = .ok (.iinc 6 1, 3) := by decide +kernel
theorem dX5_unlike_68 : decode cX5_unlike 68 = .ok (.goto (-26), 3) := by decide +kernel
theorem dX5_unlike_71 : decode cX5_unlike 71 = .ok (.iload 5, 2) := by decide +kernel
theorem dX5_unlike_73 : decode cX5_unlike 73 = .ok (.iload_n 3, 1) := by decide +kernel
theorem dX5_unlike_74 : decode cX5_unlike 74 = .ok (.if_icmp .le 9, 3) := by decide +kernel
theorem dX5_unlike_77 : decode cX5_unlike 77 = .ok (.iload 4, 2) := by decide +kernel
theorem dX5_unlike_79 : decode cX5_unlike 79 = .ok (.istore_n 2, 1) := by decide +kernel
theorem dX5_unlike_80 : decode cX5_unlike 80 = .ok (.iload 5, 2) := by decide +kernel
theorem dX5_unlike_82 : decode cX5_unlike 82 = .ok (.istore_n 3, 1) := by decide +kernel
theorem dX5_unlike_83 : decode cX5_unlike 83 = .ok (.iinc 4 1, 3) := by decide +kernel
theorem dX5_unlike_86 : decode cX5_unlike 86 = .ok (.goto (-62), 3) := by decide +kernel
theorem dX5_unlike_89 : decode cX5_unlike 89 = .ok (.iload_n 2, 1) := by decide +kernel
theorem dX5_unlike_90 : decode cX5_unlike 90 = .ok (.ifCond .ge 12, 3) := by decide +kernel
theorem dX5_unlike_93 : decode cX5_unlike 93 = .ok (.aload_n 0, 1) := by decide +kernel
theorem dX5_unlike_94 : decode cX5_unlike 94 = .ok (.ldc 89, 2) := by decide +kernel
theorem dX5_unlike_96 : decode cX5_unlike 96 = .ok (.invokevirtual 59, 3) := by decide +kernel
theorem dX5_unlike_99 : decode cX5_unlike 99 = .ok (.goto 12, 3) := by decide +kernel
theorem dX5_unlike_102 : decode cX5_unlike 102 = .ok (.iload_n 1, 1) := by decide +kernel
theorem dX5_unlike_103 : decode cX5_unlike 103 = .ok (.ifCond .ne 7, 3) := by decide +kernel
theorem dX5_unlike_106 : decode cX5_unlike 106 = .ok (.iload_n 2, 1) := by decide +kernel
theorem dX5_unlike_107 : decode cX5_unlike 107 = .ok (.goto 4, 3) := by decide +kernel
theorem dX5_unlike_110 : decode cX5_unlike 110 = .ok (.iload_n 3, 1) := by decide +kernel
theorem dX5_unlike_111 : decode cX5_unlike 111 = .ok (.ireturn, 1) := by decide +kernel
theorem dX5_countsOf_0 : decode cX5_countsOf 0 = .ok (.iconst 0, 1) := by decide +kernel
theorem dX5_countsOf_1 : decode cX5_countsOf 1 = .ok (.istore_n 2, 1) := by decide +kernel
theorem dX5_countsOf_2 : decode cX5_countsOf 2 = .ok (.iconst 0, 1) := by decide +kernel
theorem dX5_countsOf_3 : decode cX5_countsOf 3 = .ok (.istore_n 3, 1) := by decide +kernel
theorem dX5_countsOf_4 : decode cX5_countsOf 4 = .ok (.iload_n 3, 1) := by decide +kernel
theorem dX5_countsOf_5 : decode cX5_countsOf 5 = .ok (.aload_n 0, 1) := by decide +kernel
theorem dX5_countsOf_6 : decode cX5_countsOf 6 = .ok (.getfield 7, 3) := by decide +kernel
theorem dX5_countsOf_9 : decode cX5_countsOf 9 = .ok (.bipush 17, 2) := by decide +kernel
theorem dX5_countsOf_11 : decode cX5_countsOf 11 = .ok (.iaload, 1) := by decide +kernel
theorem dX5_countsOf_12 : decode cX5_countsOf 12 = .ok (.if_icmp .ge 44, 3) := by decide +kernel
theorem dX5_countsOf_15 : decode cX5_countsOf 15 = .ok (.iconst 0, 1) := by decide +kernel
theorem dX5_countsOf_16 : decode cX5_countsOf 16 = .ok (.istore 4, 2) := by decide +kernel
theorem dX5_countsOf_18 : decode cX5_countsOf 18 = .ok (.iload 4, 2) := by decide +kernel
theorem dX5_countsOf_20 : decode cX5_countsOf 20 = .ok (.iload_n 3, 1) := by decide +kernel
theorem dX5_countsOf_21 : decode cX5_countsOf 21 = .ok (.if_icmp .ge 29, 3) := by decide +kernel
theorem dX5_countsOf_24 : decode cX5_countsOf 24 = .ok (.iload_n 2, 1) := by decide +kernel
theorem dX5_countsOf_25 : decode cX5_countsOf 25 = .ok (.aload_n 0, 1) := by decide +kernel
theorem dX5_countsOf_26 : decode cX5_countsOf 26 = .ok (.iload_n 3, 1) := by decide +kernel
theorem dX5_countsOf_27 : decode cX5_countsOf 27 = .ok (.iload_n 1, 1) := by decide +kernel
theorem dX5_countsOf_28 : decode cX5_countsOf 28 = .ok (.invokevirtual 78, 3) := by decide +kernel
theorem dX5_countsOf_31 : decode cX5_countsOf 31 = .ok (.aload_n 0, 1) := by decide +kernel
theorem dX5_countsOf_32 : decode cX5_countsOf 32 = .ok (.iload 4, 2) := by decide +kernel
theorem dX5_countsOf_34 : decode cX5_countsOf 34 = .ok (.iload_n 1, 1) := by decide +kernel
theorem dX5_countsOf_35 : decode cX5_countsOf 35 = .ok (.invokevirtual 78, 3) := by decide +kernel
theorem dX5_countsOf_38 : decode cX5_countsOf 38 = .ok (.isub, 1) := by decide +kernel
theorem dX5_countsOf_39 : decode cX5_countsOf 39 = .ok (.invokestatic 169, 3) := by decide +kernel
theorem dX5_countsOf_42 : decode cX5_countsOf 42 = .ok (.iadd, 1) := by decide +kernel
theorem dX5_countsOf_43 : decode cX5_countsOf 43 = .ok (.istore_n 2, 1) := by decide +kernel
theorem dX5_countsOf_44 : decode cX5_countsOf 44 = .ok (.iinc 4 1, 3) := by decide +kernel
theorem dX5_countsOf_47 : decode cX5_countsOf 47 = .ok (.goto (-29), 3) := by decide +kernel
theorem dX5_countsOf_50 : decode cX5_countsOf 50 = .ok (.iinc 3 1, 3) := by decide +kernel
theorem dX5_countsOf_53 : decode cX5_countsOf 53 = .ok (.goto (-49), 3) := by decide +kernel
theorem dX5_countsOf_56 : decode cX5_countsOf 56 = .ok (.iload_n 2, 1) := by decide +kernel
theorem dX5_countsOf_57 : decode cX5_countsOf 57 = .ok (.ireturn, 1) := by decide +kernel
theorem dX5_counts_0 : decode cX5_counts 0 = .ok (.iload_n 1, 1) := by decide +kernel
theorem dX5_counts_1 : decode cX5_counts 1 = .ok (.invokestatic 53, 3) := by decide +kernel
theorem dX5_counts_4 : decode cX5_counts 4 = .ok (.ifCond .eq 11, 3) := by decide +kernel
theorem dX5_counts_7 : decode cX5_counts 7 = .ok (.aload_n 0, 1) := by decide +kernel
theorem dX5_counts_8 : decode cX5_counts 8 = .ok (.iload_n 1, 1) := by decide +kernel
theorem dX5_counts_9 : decode cX5_counts 9 = .ok (.invokevirtual 172, 3) := by decide +kernel
theorem dX5_counts_12 : decode cX5_counts 12 = .ok (.goto 9, 3) := by decide +kernel
theorem dX5_counts_15 : decode cX5_counts 15 = .ok (.aload_n 0, 1) := by decide +kernel
theorem dX5_counts_16 : decode cX5_counts 16 = .ok (.ldc 40, 2) := by decide +kernel
theorem dX5_counts_18 : decode cX5_counts 18 = .ok (.invokevirtual 59, 3) := by decide +kernel
theorem dX5_counts_21 : decode cX5_counts 21 = .ok (.ireturn, 1) := by decide +kernel
theorem dX5_heavy_0 : decode cX5_heavy 0 = .ok (.iconst 0, 1) := by decide +kernel
theorem dX5_heavy_1 : decode cX5_heavy 1 = .ok (.istore_n 1, 1) := by decide +kernel
theorem dX5_heavy_2 : decode cX5_heavy 2 = .ok (.iconst 1, 1) := by decide +kernel
theorem dX5_heavy_3 : decode cX5_heavy 3 = .ok (.istore_n 2, 1) := by decide +kernel
theorem dX5_heavy_4 : decode cX5_heavy 4 = .ok (.iload_n 2, 1) := by decide +kernel
theorem dX5_heavy_5 : decode cX5_heavy 5 = .ok (.bipush 8, 2) := by decide +kernel
theorem dX5_heavy_7 : decode cX5_heavy 7 = .ok (.if_icmp .ge 28, 3) := by decide +kernel
theorem dX5_heavy_10 : decode cX5_heavy 10 = .ok (.aload_n 0, 1) := by decide +kernel
theorem dX5_heavy_11 : decode cX5_heavy 11 = .ok (.iload_n 2, 1) := by decide +kernel
theorem dX5_heavy_12 : decode cX5_heavy 12 = .ok (.invokevirtual 172, 3) := by decide +kernel
theorem dX5_heavy_15 : decode cX5_heavy 15 = .ok (.aload_n 0, 1) := by decide +kernel
theorem dX5_heavy_16 : decode cX5_heavy 16 = .ok (.iload_n 1, 1) := by decide +kernel
theorem dX5_heavy_17 : decode cX5_heavy 17 = .ok (.invokevirtual 172, 3) := by decide +kernel
theorem dX5_heavy_20 : decode cX5_heavy 20 = .ok (.if_icmp .le 7, 3) := by decide +kernel
theorem dX5_heavy_23 : decode cX5_heavy 23 = .ok (.iload_n 2, 1) := by decide +kernel
theorem dX5_heavy_24 : decode cX5_heavy 24 = .ok (.goto 4, 3) := by decide +kernel
theorem dX5_heavy_27 : decode cX5_heavy 27 = .ok (.iload_n 1, 1) := by decide +kernel
theorem dX5_heavy_28 : decode cX5_heavy 28 = .ok (.istore_n 1, 1) := by decide +kernel
theorem dX5_heavy_29 : decode cX5_heavy 29 = .ok (.iinc 2 1, 3) := by decide +kernel
theorem dX5_heavy_32 : decode cX5_heavy 32 = .ok (.goto (-28), 3) := by decide +kernel
theorem dX5_heavy_35 : decode cX5_heavy 35 = .ok (.iload_n 1, 1) := by decide +kernel
theorem dX5_heavy_36 : decode cX5_heavy 36 = .ok (.ireturn, 1) := by decide +kernel
theorem dX5_seed_0 : decode cX5_seed 0 = .ok (.aload_n 0, 1) := by decide +kernel
theorem dX5_seed_1 : decode cX5_seed 1 = .ok (.getfield 7, 3) := by decide +kernel
theorem dX5_seed_4 : decode cX5_seed 4 = .ok (.bipush 16, 2) := by decide +kernel
theorem dX5_seed_6 : decode cX5_seed 6 = .ok (.iaload, 1) := by decide +kernel
theorem dX5_seed_7 : decode cX5_seed 7 = .ok (.istore_n 2, 1) := by decide +kernel
theorem dX5_seed_8 : decode cX5_seed 8 = .ok (.aload_n 0, 1) := by decide +kernel
theorem dX5_seed_9 : decode cX5_seed 9 = .ok (.getfield 7, 3) := by decide +kernel
theorem dX5_seed_12 : decode cX5_seed 12 = .ok (.bipush 16, 2) := by decide +kernel
theorem dX5_seed_14 : decode cX5_seed 14 = .ok (.iload_n 1, 1) := by decide +kernel
theorem dX5_seed_15 : decode cX5_seed 15 = .ok (.iastore, 1) := by decide +kernel
theorem dX5_seed_16 : decode cX5_seed 16 = .ok (.iload_n 2, 1) := by decide +kernel
theorem dX5_seed_17 : decode cX5_seed 17 = .ok (.ireturn, 1) := by decide +kernel
theorem dX5_feed_0 : decode cX5_feed 0 = .ok (.iload_n 2, 1) := by decide +kernel
theorem dX5_feed_1 : decode cX5_feed 1 = .ok (.i2l, 1) := by decide +kernel
theorem dX5_feed_2 : decode cX5_feed 2 = .ok (.lconst 1, 1) := by decide +kernel
theorem dX5_feed_3 : decode cX5_feed 3 = .ok (.ldc2_w 175, 3) := by decide +kernel
theorem dX5_feed_6 : decode cX5_feed 6 = .ok (.invokestatic 43, 3) := by decide +kernel
theorem dX5_feed_9 : decode cX5_feed 9 = .ok (.ifCond .ne 10, 3) := by decide +kernel
theorem dX5_feed_12 : decode cX5_feed 12 = .ok (.aload_n 0, 1) := by decide +kernel
theorem dX5_feed_13 : decode cX5_feed 13 = .ok (.ldc 40, 2) := by decide +kernel
theorem dX5_feed_15 : decode cX5_feed 15 = .ok (.invokevirtual 59, 3) := by decide +kernel
theorem dX5_feed_18 : decode cX5_feed 18 = .ok (.ireturn, 1) := by decide +kernel
theorem dX5_feed_19 : decode cX5_feed 19 = .ok (.aload_n 0, 1) := by decide +kernel
theorem dX5_feed_20 : decode cX5_feed 20 = .ok (.getfield 177, 3) := by decide +kernel
theorem dX5_feed_23 : decode cX5_feed 23 = .ok (.iload_n 2, 1) := by decide +kernel
theorem dX5_feed_24 : decode cX5_feed 24 = .ok (.iadd, 1) := by decide +kernel
theorem dX5_feed_25 : decode cX5_feed 25 = .ok (.bipush 120, 2) := by decide +kernel
theorem dX5_feed_27 : decode cX5_feed 27 = .ok (.if_icmp .le 10, 3) := by decide +kernel
theorem dX5_feed_30 : decode cX5_feed 30 = .ok (.aload_n 0, 1) := by decide +kernel
theorem dX5_feed_31 : decode cX5_feed 31 = .ok (.ldc 71, 2) := by decide +kernel
theorem dX5_feed_33 : decode cX5_feed 33 = .ok (.invokevirtual 59, 3) := by decide +kernel
theorem dX5_feed_36 : decode cX5_feed 36 = .ok (.ireturn, 1) := by decide +kernel
theorem dX5_feed_37 : decode cX5_feed 37 = .ok (.iload_n 2, 1) := by decide +kernel
theorem dX5_feed_38 : decode cX5_feed 38 = .ok (.iconst 1, 1) := by decide +kernel
theorem dX5_feed_39 : decode cX5_feed 39 = .ok (.isub, 1) := by decide +kernel
theorem dX5_feed_40 : decode cX5_feed 40 = .ok (.istore_n 3, 1) := by decide +kernel
theorem dX5_feed_41 : decode cX5_feed 41 = .ok (.iload_n 3, 1) := by decide +kernel
theorem dX5_feed_42 : decode cX5_feed 42 = .ok (.ifCond .lt 38, 3) := by decide +kernel
theorem dX5_feed_45 : decode cX5_feed 45 = .ok (.aload_n 0, 1) := by decide +kernel
theorem dX5_feed_46 : decode cX5_feed 46 = .ok (.getfield 25, 3) := by decide +kernel
theorem dX5_feed_49 : decode cX5_feed 49 = .ok (.aload_n 0, 1) := by decide +kernel
theorem dX5_feed_50 : decode cX5_feed 50 = .ok (.getfield 177, 3) := by decide +kernel
theorem dX5_feed_53 : decode cX5_feed 53 = .ok (.iload_n 1, 1) := by decide +kernel
theorem dX5_feed_54 : decode cX5_feed 54 = .ok (.bipush 8, 2) := by decide +kernel
theorem dX5_feed_56 : decode cX5_feed 56 = .ok (.iload_n 3, 1) := by decide +kernel
theorem dX5_feed_57 : decode cX5_feed 57 = .ok (.imul, 1) := by decide +kernel
theorem dX5_feed_58 : decode cX5_feed 58 = .ok (.ishr, 1) := by decide +kernel
theorem dX5_feed_59 : decode cX5_feed 59 = .ok (.sipush 255, 3) := by decide +kernel
theorem dX5_feed_62 : decode cX5_feed 62 = .ok (.iand, 1) := by decide +kernel
theorem dX5_feed_63 : decode cX5_feed 63 = .ok (.iastore, 1) := by decide +kernel
theorem dX5_feed_64 : decode cX5_feed 64 = .ok (.aload_n 0, 1) := by decide +kernel
theorem dX5_feed_65 : decode cX5_feed 65 = .ok (.dup, 1) := by decide +kernel
theorem dX5_feed_66 : decode cX5_feed 66 = .ok (.getfield 177, 3) := by decide +kernel
theorem dX5_feed_69 : decode cX5_feed 69 = .ok (.iconst 1, 1) := by decide +kernel
theorem dX5_feed_70 : decode cX5_feed 70 = .ok (.iadd, 1) := by decide +kernel
theorem dX5_feed_71 : decode cX5_feed 71 = .ok (.putfield 177, 3) := by decide +kernel
theorem dX5_feed_74 : decode cX5_feed 74 = .ok (.iinc 3 (-1), 3) := by decide +kernel
theorem dX5_feed_77 : decode cX5_feed 77 = .ok (.goto (-36), 3) := by decide +kernel
theorem dX5_feed_80 : decode cX5_feed 80 = .ok (.aload_n 0, 1) := by decide +kernel
theorem dX5_feed_81 : decode cX5_feed 81 = .ok (.getfield 177, 3) := by decide +kernel
theorem dX5_feed_84 : decode cX5_feed 84 = .ok (.ireturn, 1) := by decide +kernel
theorem dX5_wipe_0 : decode cX5_wipe 0 = .ok (.aload_n 0, 1) := by decide +kernel
theorem dX5_wipe_1 : decode cX5_wipe 1 = .ok (.getfield 177, 3) := by decide +kernel
theorem dX5_wipe_4 : decode cX5_wipe 4 = .ok (.istore_n 1, 1) := by decide +kernel
theorem dX5_wipe_5 : decode cX5_wipe 5 = .ok (.aload_n 0, 1) := by decide +kernel
theorem dX5_wipe_6 : decode cX5_wipe 6 = .ok (.iconst 0, 1) := by decide +kernel
theorem dX5_wipe_7 : decode cX5_wipe 7 = .ok (.putfield 177, 3) := by decide +kernel
theorem dX5_wipe_10 : decode cX5_wipe 10 = .ok (.iload_n 1, 1) := by decide +kernel
theorem dX5_wipe_11 : decode cX5_wipe 11 = .ok (.ireturn, 1) := by decide +kernel
theorem dX5_byteAt_0 : decode cX5_byteAt 0 = .ok (.iload_n 1, 1) := by decide +kernel
theorem dX5_byteAt_1 : decode cX5_byteAt 1 = .ok (.aload_n 0, 1) := by decide +kernel
theorem dX5_byteAt_2 : decode cX5_byteAt 2 = .ok (.getfield 177, 3) := by decide +kernel
theorem dX5_byteAt_5 : decode cX5_byteAt 5 = .ok (.if_icmp .ge 12, 3) := by decide +kernel
theorem dX5_byteAt_8 : decode cX5_byteAt 8 = .ok (.aload_n 0, 1) := by decide +kernel
theorem dX5_byteAt_9 : decode cX5_byteAt 9 = .ok (.getfield 25, 3) := by decide +kernel
theorem dX5_byteAt_12 : decode cX5_byteAt 12 = .ok (.iload_n 1, 1) := by decide +kernel
theorem dX5_byteAt_13 : decode cX5_byteAt 13 = .ok (.iaload, 1) := by decide +kernel
theorem dX5_byteAt_14 : decode cX5_byteAt 14 = .ok (.goto 4, 3) := by decide +kernel
theorem dX5_byteAt_17 : decode cX5_byteAt 17 = .ok (.iconst (-1), 1) := by decide +kernel
theorem dX5_byteAt_18 : decode cX5_byteAt 18 = .ok (.ireturn, 1) := by decide +kernel
theorem dX5_isLetter_0 : decode cX5_isLetter 0 = .ok (.iload_n 0, 1) := by decide +kernel
theorem dX5_isLetter_1 : decode cX5_isLetter 1 = .ok (.i2l, 1) := by decide +kernel
theorem dX5_isLetter_2 : decode cX5_isLetter 2 = .ok (.ldc2_w 181, 3) := by decide +kernel
theorem dX5_isLetter_5 : decode cX5_isLetter 5 = .ok (.ldc2_w 183, 3) := by decide +kernel
theorem dX5_isLetter_8 : decode cX5_isLetter 8 = .ok (.invokestatic 43, 3) := by decide +kernel
theorem dX5_isLetter_11 : decode cX5_isLetter 11 = .ok (.ireturn, 1) := by decide +kernel
theorem dX5_isDigit_0 : decode cX5_isDigit 0 = .ok (.iload_n 0, 1) := by decide +kernel
theorem dX5_isDigit_1 : decode cX5_isDigit 1 = .ok (.i2l, 1) := by decide +kernel
theorem dX5_isDigit_2 : decode cX5_isDigit 2 = .ok (.ldc2_w 185, 3) := by decide +kernel
theorem dX5_isDigit_5 : decode cX5_isDigit 5 = .ok (.ldc2_w 187, 3) := by decide +kernel
theorem dX5_isDigit_8 : decode cX5_isDigit 8 = .ok (.invokestatic 43, 3) := by decide +kernel
theorem dX5_isDigit_11 : decode cX5_isDigit 11 = .ok (.ireturn, 1) := by decide +kernel
theorem dX5_token_0 : decode cX5_token 0 = .ok (.aload_n 0, 1) := by decide +kernel
theorem dX5_token_1 : decode cX5_token 1 = .ok (.aload_n 0, 1) := by decide +kernel
theorem dX5_token_2 : decode cX5_token 2 = .ok (.getfield 189, 3) := by decide +kernel
theorem dX5_token_5 : decode cX5_token 5 = .ok (.putfield 192, 3) := by decide +kernel
theorem dX5_token_8 : decode cX5_token 8 = .ok (.aload_n 0, 1) := by decide +kernel
theorem dX5_token_9 : decode cX5_token 9 = .ok (.aload_n 0, 1) := by decide +kernel
theorem dX5_token_10 : decode cX5_token 10 = .ok (.getfield 192, 3) := by decide +kernel
theorem dX5_token_13 : decode cX5_token 13 = .ok (.invokevirtual 195, 3) := by decide +kernel
theorem dX5_token_16 : decode cX5_token 16 = .ok (.bipush 32, 2) := by decide +kernel
theorem dX5_token_18 : decode cX5_token 18 = .ok (.if_icmp .ne 16, 3) := by decide +kernel
theorem dX5_token_21 : decode cX5_token 21 = .ok (.aload_n 0, 1) := by decide +kernel
theorem dX5_token_22 : decode cX5_token 22 = .ok (.dup, 1) := by decide +kernel
theorem dX5_token_23 : decode cX5_token 23 = .ok (.getfield 192, 3) := by decide +kernel
theorem dX5_token_26 : decode cX5_token 26 = .ok (.iconst 1, 1) := by decide +kernel
theorem dX5_token_27 : decode cX5_token 27 = .ok (.iadd, 1) := by decide +kernel
theorem dX5_token_28 : decode cX5_token 28 = .ok (.putfield 192, 3) := by decide +kernel
theorem dX5_token_31 : decode cX5_token 31 = .ok (.goto (-23), 3) := by decide +kernel
theorem dX5_token_34 : decode cX5_token 34 = .ok (.aload_n 0, 1) := by decide +kernel
theorem dX5_token_35 : decode cX5_token 35 = .ok (.aload_n 0, 1) := by decide +kernel
theorem dX5_token_36 : decode cX5_token 36 = .ok (.getfield 192, 3) := by decide +kernel
theorem dX5_token_39 : decode cX5_token 39 = .ok (.invokevirtual 195, 3) := by decide +kernel
theorem dX5_token_42 : decode cX5_token 42 = .ok (.invokestatic 198, 3) := by decide +kernel
theorem dX5_token_45 : decode cX5_token 45 = .ok (.istore_n 1, 1) := by decide +kernel
theorem dX5_token_46 : decode cX5_token 46 = .ok (.aload_n 0, 1) := by decide +kernel
theorem dX5_token_47 : decode cX5_token 47 = .ok (.aload_n 0, 1) := by decide +kernel
theorem dX5_token_48 : decode cX5_token 48 = .ok (.getfield 192, 3) := by decide +kernel
theorem dX5_token_51 : decode cX5_token 51 = .ok (.invokevirtual 195, 3) := by decide +kernel
theorem dX5_token_54 : decode cX5_token 54 = .ok (.invokestatic 201, 3) := by decide +kernel
theorem dX5_token_57 : decode cX5_token 57 = .ok (.istore_n 2, 1) := by decide +kernel
theorem dX5_token_58 : decode cX5_token 58 = .ok (.aload_n 0, 1) := by decide +kernel
theorem dX5_token_59 : decode cX5_token 59 = .ok (.aload_n 0, 1) := by decide +kernel
theorem dX5_token_60 : decode cX5_token 60 = .ok (.getfield 192, 3) := by decide +kernel
theorem dX5_token_63 : decode cX5_token 63 = .ok (.aload_n 0, 1) := by decide +kernel
theorem dX5_token_64 : decode cX5_token 64 = .ok (.getfield 177, 3) := by decide +kernel
theorem dX5_token_67 : decode cX5_token 67 = .ok (.if_icmp .ge 12, 3) := by decide +kernel
theorem dX5_token_70 : decode cX5_token 70 = .ok (.aload_n 0, 1) := by decide +kernel
theorem dX5_token_71 : decode cX5_token 71 = .ok (.getfield 192, 3) := by decide +kernel
theorem dX5_token_74 : decode cX5_token 74 = .ok (.iconst 1, 1) := by decide +kernel
theorem dX5_token_75 : decode cX5_token 75 = .ok (.iadd, 1) := by decide +kernel
theorem dX5_token_76 : decode cX5_token 76 = .ok (.goto 7, 3) := by decide +kernel
theorem dX5_token_79 : decode cX5_token 79 = .ok (.aload_n 0, 1) := by decide +kernel
theorem dX5_token_80 : decode cX5_token 80 = .ok (.getfield 192, 3) := by decide +kernel
theorem dX5_token_83 : decode cX5_token 83 = .ok (.putfield 189, 3) := by decide +kernel
theorem dX5_token_86 : decode cX5_token 86 = .ok (.iload_n 1, 1) := by decide +kernel
theorem dX5_token_87 : decode cX5_token 87 = .ok (.ifCond .eq 17, 3) := by decide +kernel
theorem dX5_token_90 : decode cX5_token 90 = .ok (.aload_n 0, 1) := by decide +kernel
theorem dX5_token_91 : decode cX5_token 91 = .ok (.aload_n 0, 1) := by decide +kernel
theorem dX5_token_92 : decode cX5_token 92 = .ok (.getfield 189, 3) := by decide +kernel
theorem dX5_token_95 : decode cX5_token 95 = .ok (.invokevirtual 195, 3) := by decide +kernel
theorem dX5_token_98 : decode cX5_token 98 = .ok (.invokestatic 198, 3) := by decide +kernel
theorem dX5_token_101 : decode cX5_token 101 = .ok (.ifCond .ne 21, 3) := by decide +kernel
theorem dX5_token_104 : decode cX5_token 104 = .ok (.iload_n 2, 1) := by decide +kernel
theorem dX5_token_105 : decode cX5_token 105 = .ok (.ifCond .eq 30, 3) := by decide +kernel
theorem dX5_token_108 : decode cX5_token 108 = .ok (.aload_n 0, 1) := by decide +kernel
theorem dX5_token_109 : decode cX5_token 109 = .ok (.aload_n 0, 1) := by decide +kernel
theorem dX5_token_110 : decode cX5_token 110 = .ok (.getfield 189, 3) := by decide +kernel
theorem dX5_token_113 : decode cX5_token 113 = .ok (.invokevirtual 195, 3) := by decide +kernel
theorem dX5_token_116 : decode cX5_token 116 = .ok (.invokestatic 201, 3) := by decide +kernel
theorem dX5_token_119 : decode cX5_token 119 = .ok (.ifCond .eq 16, 3) := by decide +kernel
theorem dX5_token_122 : decode cX5_token 122 = .ok (.aload_n 0, 1) := by decide +kernel
theorem dX5_token_123 : decode cX5_token 123 = .ok (.dup, 1) := by decide +kernel
theorem dX5_token_124 : decode cX5_token 124 = .ok (.getfield 189, 3) := by decide +kernel
theorem dX5_token_127 : decode cX5_token 127 = .ok (.iconst 1, 1) := by decide +kernel
theorem dX5_token_128 : decode cX5_token 128 = .ok (.iadd, 1) := by decide +kernel
theorem dX5_token_129 : decode cX5_token 129 = .ok (.putfield 189, 3) := by decide +kernel
theorem dX5_token_132 : decode cX5_token 132 = .ok (.goto (-46), 3) := by decide +kernel
theorem dX5_token_135 : decode cX5_token 135 = .ok (.return_, 1) := by decide +kernel
theorem dX5_needs_0 : decode cX5_needs 0 = .ok (.aload_n 0, 1) := by decide +kernel
theorem dX5_needs_1 : decode cX5_needs 1 = .ok (.aload_n 0, 1) := by decide +kernel
theorem dX5_needs_2 : decode cX5_needs 2 = .ok (.getfield 204, 3) := by decide +kernel
theorem dX5_needs_5 : decode cX5_needs 5 = .ok (.ifCond .ne 7, 3) := by decide +kernel
theorem dX5_needs_8 : decode cX5_needs 8 = .ok (.iload_n 1, 1) := by decide +kernel
theorem dX5_needs_9 : decode cX5_needs 9 = .ok (.ifCond .ne 7, 3) := by decide +kernel
theorem dX5_needs_12 : decode cX5_needs 12 = .ok (.iconst 1, 1) := by decide +kernel
theorem dX5_needs_13 : decode cX5_needs 13 = .ok (.goto 4, 3) := by decide +kernel
theorem dX5_needs_16 : decode cX5_needs 16 = .ok (.iconst 0, 1) := by decide +kernel
theorem dX5_needs_17 : decode cX5_needs 17 = .ok (.putfield 204, 3) := by decide +kernel
theorem dX5_needs_20 : decode cX5_needs 20 = .ok (.aload_n 0, 1) := by decide +kernel
theorem dX5_needs_21 : decode cX5_needs 21 = .ok (.getfield 204, 3) := by decide +kernel
theorem dX5_needs_24 : decode cX5_needs 24 = .ok (.ifCond .ne 7, 3) := by decide +kernel
theorem dX5_needs_27 : decode cX5_needs 27 = .ok (.aload_n 0, 1) := by decide +kernel
theorem dX5_needs_28 : decode cX5_needs 28 = .ok (.invokevirtual 208, 3) := by decide +kernel
theorem dX5_needs_31 : decode cX5_needs 31 = .ok (.return_, 1) := by decide +kernel
theorem dX5_isLetterAt_0 : decode cX5_isLetterAt 0 = .ok (.iload_n 2, 1) := by decide +kernel
theorem dX5_isLetterAt_1 : decode cX5_isLetterAt 1 = .ok (.ifCond .eq 17, 3) := by decide +kernel
theorem dX5_isLetterAt_4 : decode cX5_isLetterAt 4 = .ok (.aload_n 0, 1) := by decide +kernel
theorem dX5_isLetterAt_5 : decode cX5_isLetterAt 5 = .ok (.aload_n 0, 1) := by decide +kernel
theorem dX5_isLetterAt_6 : decode cX5_isLetterAt 6 = .ok (.getfield 192, 3) := by decide +kernel
theorem dX5_isLetterAt_9 : decode cX5_isLetterAt 9 = .ok (.iload_n 1, 1) := by decide +kernel
theorem dX5_isLetterAt_10 : decode cX5_isLetterAt 10 = .ok (.iadd, 1) := by decide +kernel
theorem dX5_isLetterAt_11 : decode cX5_isLetterAt 11 = .ok (.invokevirtual 195, 3) := by decide +kernel
theorem dX5_isLetterAt_14 : decode cX5_isLetterAt 14 = .ok (.iload_n 2, 1) := by decide +kernel
theorem dX5_isLetterAt_15 : decode cX5_isLetterAt 15 = .ok (.if_icmp .ne 7, 3) := by decide +kernel
theorem dX5_isLetterAt_18 : decode cX5_isLetterAt 18 = .ok (.iconst 1, 1) := by decide +kernel
theorem dX5_isLetterAt_19 : decode cX5_isLetterAt 19 = .ok (.goto 4, 3) := by decide +kernel
theorem dX5_isLetterAt_22 : decode cX5_isLetterAt 22 = .ok (.iconst 0, 1) := by decide +kernel
theorem dX5_isLetterAt_23 : decode cX5_isLetterAt 23 = .ok (.ireturn, 1) := by decide +kernel
theorem dX5_isWord_0 : decode cX5_isWord 0 = .ok (.iload 4, 2) := by decide +kernel
theorem dX5_isWord_2 : decode cX5_isWord 2 = .ok (.ifCond .ne 7, 3) := by decide +kernel
theorem dX5_isWord_5 : decode cX5_isWord 5 = .ok (.iconst 3, 1) := by decide +kernel
theorem dX5_isWord_6 : decode cX5_isWord 6 = .ok (.goto 53, 3) := by decide +kernel
theorem dX5_isWord_9 : decode cX5_isWord 9 = .ok (.iload 5, 2) := by decide +kernel
theorem dX5_isWord_11 : decode cX5_isWord 11 = .ok (.ifCond .ne 7, 3) := by decide +kernel
theorem dX5_isWord_14 : decode cX5_isWord 14 = .ok (.iconst 4, 1) := by decide +kernel
theorem dX5_isWord_15 : decode cX5_isWord 15 = .ok (.goto 44, 3) := by decide +kernel
theorem dX5_isWord_18 : decode cX5_isWord 18 = .ok (.iload 6, 2) := by decide +kernel
theorem dX5_isWord_20 : decode cX5_isWord 20 = .ok (.ifCond .ne 7, 3) := by decide +kernel
theorem dX5_isWord_23 : decode cX5_isWord 23 = .ok (.iconst 5, 1) := by decide +kernel
theorem dX5_isWord_24 : decode cX5_isWord 24 = .ok (.goto 35, 3) := by decide +kernel
theorem dX5_isWord_27 : decode cX5_isWord 27 = .ok (.iload 7, 2) := by decide +kernel
theorem dX5_isWord_29 : decode cX5_isWord 29 = .ok (.ifCond .ne 8, 3) := by decide +kernel
theorem dX5_isWord_32 : decode cX5_isWord 32 = .ok (.bipush 6, 2) := by decide +kernel
theorem dX5_isWord_34 : decode cX5_isWord 34 = .ok (.goto 25, 3) := by decide +kernel
theorem dX5_isWord_37 : decode cX5_isWord 37 = .ok (.iload 8, 2) := by decide +kernel
theorem dX5_isWord_39 : decode cX5_isWord 39 = .ok (.ifCond .ne 8, 3) := by decide +kernel
theorem dX5_isWord_42 : decode cX5_isWord 42 = .ok (.bipush 7, 2) := by decide +kernel
theorem dX5_isWord_44 : decode cX5_isWord 44 = .ok (.goto 15, 3) := by decide +kernel
theorem dX5_isWord_47 : decode cX5_isWord 47 = .ok (.iload 9, 2) := by decide +kernel
theorem dX5_isWord_49 : decode cX5_isWord 49 = .ok (.ifCond .ne 8, 3) := by decide +kernel
theorem dX5_isWord_52 : decode cX5_isWord 52 = .ok (.bipush 8, 2) := by decide +kernel
theorem dX5_isWord_54 : decode cX5_isWord 54 = .ok (.goto 5, 3) := by decide +kernel
theorem dX5_isWord_57 : decode cX5_isWord 57 = .ok (.bipush 9, 2) := by decide +kernel
theorem dX5_isWord_59 : decode cX5_isWord 59 = .ok (.istore 10, 2) := by decide +kernel
theorem dX5_isWord_61 : decode cX5_isWord 61 = .ok (.iload_n 3, 1) := by decide +kernel
theorem dX5_isWord_62 : decode cX5_isWord 62 = .ok (.ifCond .ne 7, 3) := by decide +kernel
theorem dX5_isWord_65 : decode cX5_isWord 65 = .ok (.iconst 2, 1) := by decide +kernel
theorem dX5_isWord_66 : decode cX5_isWord 66 = .ok (.goto 5, 3) := by decide +kernel
theorem dX5_isWord_69 : decode cX5_isWord 69 = .ok (.iload 10, 2) := by decide +kernel
theorem dX5_isWord_71 : decode cX5_isWord 71 = .ok (.istore 10, 2) := by decide +kernel
theorem dX5_isWord_73 : decode cX5_isWord 73 = .ok (.aload_n 0, 1) := by decide +kernel
theorem dX5_isWord_74 : decode cX5_isWord 74 = .ok (.getfield 204, 3) := by decide +kernel
theorem dX5_isWord_77 : decode cX5_isWord 77 = .ok (.ifCond .ne 68, 3) := by decide +kernel
theorem dX5_isWord_80 : decode cX5_isWord 80 = .ok (.aload_n 0, 1) := by decide +kernel
theorem dX5_isWord_81 : decode cX5_isWord 81 = .ok (.getfield 189, 3) := by decide +kernel
theorem dX5_isWord_84 : decode cX5_isWord 84 = .ok (.aload_n 0, 1) := by decide +kernel
theorem dX5_isWord_85 : decode cX5_isWord 85 = .ok (.getfield 192, 3) := by decide +kernel
theorem dX5_isWord_88 : decode cX5_isWord 88 = .ok (.isub, 1) := by decide +kernel
theorem dX5_isWord_89 : decode cX5_isWord 89 = .ok (.iload 10, 2) := by decide +kernel
theorem dX5_isWord_91 : decode cX5_isWord 91 = .ok (.if_icmp .ne 54, 3) := by decide +kernel
theorem dX5_isWord_94 : decode cX5_isWord 94 = .ok (.aload_n 0, 1) := by decide +kernel
theorem dX5_isWord_95 : decode cX5_isWord 95 = .ok (.iconst 0, 1) := by decide +kernel
theorem dX5_isWord_96 : decode cX5_isWord 96 = .ok (.iload_n 1, 1) := by decide +kernel
theorem dX5_isWord_97 : decode cX5_isWord 97 = .ok (.invokevirtual 211, 3) := by decide +kernel
theorem dX5_isWord_100 : decode cX5_isWord 100 = .ok (.ifCond .eq 45, 3) := by decide +kernel
theorem dX5_isWord_103 : decode cX5_isWord 103 = .ok (.aload_n 0, 1) := by decide +kernel
theorem dX5_isWord_104 : decode cX5_isWord 104 = .ok (.iconst 1, 1) := by decide +kernel
theorem dX5_isWord_105 : decode cX5_isWord 105 = .ok (.iload_n 2, 1) := by decide +kernel
theorem dX5_isWord_106 : decode cX5_isWord 106 = .ok (.invokevirtual 211, 3) := by decide +kernel
theorem dX5_isWord_109 : decode cX5_isWord 109 = .ok (.ifCond .eq 36, 3) := by decide +kernel
theorem dX5_isWord_112 : decode cX5_isWord 112 = .ok (.aload_n 0, 1) := by decide +kernel
theorem dX5_isWord_113 : decode cX5_isWord 113 = .ok (.iconst 2, 1) := by decide +kernel
theorem dX5_isWord_114 : decode cX5_isWord 114 = .ok (.iload_n 3, 1) := by decide +kernel
theorem dX5_isWord_115 : decode cX5_isWord 115 = .ok (.invokevirtual 211, 3) := by decide +kernel
theorem dX5_isWord_118 : decode cX5_isWord 118 = .ok (.ifCond .eq 27, 3) := by decide +kernel
theorem dX5_isWord_121 : decode cX5_isWord 121 = .ok (.aload_n 0, 1) := by decide +kernel
theorem dX5_isWord_122 : decode cX5_isWord 122 = .ok (.iconst 3, 1) := by decide +kernel
theorem dX5_isWord_123 : decode cX5_isWord 123 = .ok (.iload 4, 2) := by decide +kernel
theorem dX5_isWord_125 : decode cX5_isWord 125 = .ok (.invokevirtual 211, 3) := by decide +kernel
theorem dX5_isWord_128 : decode cX5_isWord 128 = .ok (.ifCond .eq 17, 3) := by decide +kernel
theorem dX5_isWord_131 : decode cX5_isWord 131 = .ok (.aload_n 0, 1) := by decide +kernel
theorem dX5_isWord_132 : decode cX5_isWord 132 = .ok (.iconst 4, 1) := by decide +kernel
theorem dX5_isWord_133 : decode cX5_isWord 133 = .ok (.iload 5, 2) := by decide +kernel
theorem dX5_isWord_135 : decode cX5_isWord 135 = .ok (.invokevirtual 211, 3) := by decide +kernel
theorem dX5_isWord_138 : decode cX5_isWord 138 = .ok (.ifCond .eq 7, 3) := by decide +kernel
theorem dX5_isWord_141 : decode cX5_isWord 141 = .ok (.iconst 1, 1) := by decide +kernel
theorem dX5_isWord_142 : decode cX5_isWord 142 = .ok (.goto 4, 3) := by decide +kernel
theorem dX5_isWord_145 : decode cX5_isWord 145 = .ok (.iconst 0, 1) := by decide +kernel
theorem dX5_isWord_146 : decode cX5_isWord 146 = .ok (.istore 11, 2) := by decide +kernel
theorem dX5_isWord_148 : decode cX5_isWord 148 = .ok (.iload 11, 2) := by decide +kernel
theorem dX5_isWord_150 : decode cX5_isWord 150 = .ok (.ifCond .eq 50, 3) := by decide +kernel
theorem dX5_isWord_153 : decode cX5_isWord 153 = .ok (.aload_n 0, 1) := by decide +kernel
theorem dX5_isWord_154 : decode cX5_isWord 154 = .ok (.iconst 5, 1) := by decide +kernel
theorem dX5_isWord_155 : decode cX5_isWord 155 = .ok (.iload 6, 2) := by decide +kernel
theorem dX5_isWord_157 : decode cX5_isWord 157 = .ok (.invokevirtual 211, 3) := by decide +kernel
theorem dX5_isWord_160 : decode cX5_isWord 160 = .ok (.ifCond .eq 40, 3) := by decide +kernel
theorem dX5_isWord_163 : decode cX5_isWord 163 = .ok (.aload_n 0, 1) := by decide +kernel
theorem dX5_isWord_164 : decode cX5_isWord 164 = .ok (.bipush 6, 2) := by decide +kernel
theorem dX5_isWord_166 : decode cX5_isWord 166 = .ok (.iload 7, 2) := by decide +kernel
theorem dX5_isWord_168 : decode cX5_isWord 168 = .ok (.invokevirtual 211, 3) := by decide +kernel
theorem dX5_isWord_171 : decode cX5_isWord 171 = .ok (.ifCond .eq 29, 3) := by decide +kernel
theorem dX5_isWord_174 : decode cX5_isWord 174 = .ok (.aload_n 0, 1) := by decide +kernel
theorem dX5_isWord_175 : decode cX5_isWord 175 = .ok (.bipush 7, 2) := by decide +kernel
theorem dX5_isWord_177 : decode cX5_isWord 177 = .ok (.iload 8, 2) := by decide +kernel
theorem dX5_isWord_179 : decode cX5_isWord 179 = .ok (.invokevirtual 211, 3) := by decide +kernel
theorem dX5_isWord_182 : decode cX5_isWord 182 = .ok (.ifCond .eq 18, 3) := by decide +kernel
theorem dX5_isWord_185 : decode cX5_isWord 185 = .ok (.aload_n 0, 1) := by decide +kernel
theorem dX5_isWord_186 : decode cX5_isWord 186 = .ok (.bipush 8, 2) := by decide +kernel
theorem dX5_isWord_188 : decode cX5_isWord 188 = .ok (.iload 9, 2) := by decide +kernel
theorem dX5_isWord_190 : decode cX5_isWord 190 = .ok (.invokevirtual 211, 3) := by decide +kernel
theorem dX5_isWord_193 : decode cX5_isWord 193 = .ok (.ifCond .eq 7, 3) := by decide +kernel
theorem dX5_isWord_196 : decode cX5_isWord 196 = .ok (.iconst 1, 1) := by decide +kernel
theorem dX5_isWord_197 : decode cX5_isWord 197 = .ok (.goto 4, 3) := by decide +kernel
theorem dX5_isWord_200 : decode cX5_isWord 200 = .ok (.iconst 0, 1) := by decide +kernel
theorem dX5_isWord_201 : decode cX5_isWord 201 = .ok (.ireturn, 1) := by decide +kernel
theorem dX5_number_0 : decode cX5_number 0 = .ok (.aload_n 0, 1) := by decide +kernel
theorem dX5_number_1 : decode cX5_number 1 = .ok (.getfield 204, 3) := by decide +kernel
theorem dX5_number_4 : decode cX5_number 4 = .ok (.ifCond .eq 4, 3) := by decide +kernel
theorem dX5_number_7 : decode cX5_number 7 = .ok (.return_, 1) := by decide +kernel
theorem dX5_number_8 : decode cX5_number 8 = .ok (.aload_n 0, 1) := by decide +kernel
theorem dX5_number_9 : decode cX5_number 9 = .ok (.aload_n 0, 1) := by decide +kernel
theorem dX5_number_10 : decode cX5_number 10 = .ok (.getfield 192, 3) := by decide +kernel
theorem dX5_number_13 : decode cX5_number 13 = .ok (.invokevirtual 195, 3) := by decide +kernel
theorem dX5_number_16 : decode cX5_number 16 = .ok (.invokestatic 201, 3) := by decide +kernel
theorem dX5_number_19 : decode cX5_number 19 = .ok (.istore_n 3, 1) := by decide +kernel
theorem dX5_number_20 : decode cX5_number 20 = .ok (.iconst 0, 1) := by decide +kernel
theorem dX5_number_21 : decode cX5_number 21 = .ok (.istore 4, 2) := by decide +kernel
theorem dX5_number_23 : decode cX5_number 23 = .ok (.aload_n 0, 1) := by decide +kernel
theorem dX5_number_24 : decode cX5_number 24 = .ok (.getfield 192, 3) := by decide +kernel
theorem dX5_number_27 : decode cX5_number 27 = .ok (.istore 5, 2) := by decide +kernel
theorem dX5_number_29 : decode cX5_number 29 = .ok (.iload 5, 2) := by decide +kernel
theorem dX5_number_31 : decode cX5_number 31 = .ok (.aload_n 0, 1) := by decide +kernel
theorem dX5_number_32 : decode cX5_number 32 = .ok (.getfield 189, 3) := by decide +kernel
theorem dX5_number_35 : decode cX5_number 35 = .ok (.if_icmp .ge 44, 3) := by decide +kernel
theorem dX5_number_38 : decode cX5_number 38 = .ok (.iload_n 3, 1) := by decide +kernel
theorem dX5_number_39 : decode cX5_number 39 = .ok (.ifCond .eq 40, 3) := by decide +kernel
theorem dX5_number_42 : decode cX5_number 42 = .ok (.iload 4, 2) := by decide +kernel
theorem dX5_number_44 : decode cX5_number 44 = .ok (.sipush 999, 3) := by decide +kernel
theorem dX5_number_47 : decode cX5_number 47 = .ok (.if_icmp .le 8, 3) := by decide +kernel
theorem dX5_number_50 : decode cX5_number 50 = .ok (.iload 4, 2) := by decide +kernel
theorem dX5_number_52 : decode cX5_number 52 = .ok (.goto 19, 3) := by decide +kernel
theorem dX5_number_55 : decode cX5_number 55 = .ok (.bipush 10, 2) := by decide +kernel
theorem dX5_number_57 : decode cX5_number 57 = .ok (.iload 4, 2) := by decide +kernel
theorem dX5_number_59 : decode cX5_number 59 = .ok (.imul, 1) := by decide +kernel
theorem dX5_number_60 : decode cX5_number 60 = .ok (.aload_n 0, 1) := by decide +kernel
theorem dX5_number_61 : decode cX5_number 61 = .ok (.getfield 25, 3) := by decide +kernel
theorem dX5_number_64 : decode cX5_number 64 = .ok (.iload 5, 2) := by decide +kernel
theorem dX5_number_66 : decode cX5_number 66 = .ok (.iaload, 1) := by decide +kernel
theorem dX5_number_67 : decode cX5_number 67 = .ok (.iadd, 1) := by decide +kernel
theorem dX5_number_68 : decode cX5_number 68 = .ok (.bipush 48, 2) := by decide +kernel
theorem dX5_number_70 : decode cX5_number 70 = .ok (.isub, 1) := by decide +kernel
theorem dX5_number_71 : decode cX5_number 71 = .ok (.istore 4, 2) := by decide +kernel
theorem dX5_number_73 : decode cX5_number 73 = .ok (.iinc 5 1, 3) := by decide +kernel
theorem dX5_number_76 : decode cX5_number 76 = .ok (.goto (-47), 3) := by decide +kernel
theorem dX5_number_79 : decode cX5_number 79 = .ok (.aload_n 0, 1) := by decide +kernel
theorem dX5_number_80 : decode cX5_number 80 = .ok (.iload 4, 2) := by decide +kernel
theorem dX5_number_82 : decode cX5_number 82 = .ok (.putfield 215, 3) := by decide +kernel
theorem dX5_number_85 : decode cX5_number 85 = .ok (.aload_n 0, 1) := by decide +kernel
theorem dX5_number_86 : decode cX5_number 86 = .ok (.iload_n 3, 1) := by decide +kernel
theorem dX5_number_87 : decode cX5_number 87 = .ok (.ifCond .eq 20, 3) := by decide +kernel
theorem dX5_number_90 : decode cX5_number 90 = .ok (.iload 4, 2) := by decide +kernel
theorem dX5_number_92 : decode cX5_number 92 = .ok (.i2l, 1) := by decide +kernel
theorem dX5_number_93 : decode cX5_number 93 = .ok (.iload_n 1, 1) := by decide +kernel
theorem dX5_number_94 : decode cX5_number 94 = .ok (.i2l, 1) := by decide +kernel
theorem dX5_number_95 : decode cX5_number 95 = .ok (.iload_n 2, 1) := by decide +kernel
theorem dX5_number_96 : decode cX5_number 96 = .ok (.i2l, 1) := by decide +kernel
theorem dX5_number_97 : decode cX5_number 97 = .ok (.invokestatic 43, 3) := by decide +kernel
theorem dX5_number_100 : decode cX5_number 100 = .ok (.ifCond .eq 7, 3) := by decide +kernel
theorem dX5_number_103 : decode cX5_number 103 = .ok (.iconst 1, 1) := by decide +kernel
theorem dX5_number_104 : decode cX5_number 104 = .ok (.goto 4, 3) := by decide +kernel
theorem dX5_number_107 : decode cX5_number 107 = .ok (.iconst 0, 1) := by decide +kernel
theorem dX5_number_108 : decode cX5_number 108 = .ok (.invokevirtual 218, 3) := by decide +kernel
theorem dX5_number_111 : decode cX5_number 111 = .ok (.return_, 1) := by decide +kernel
theorem dX5_kindHere_0 : decode cX5_kindHere 0 = .ok (.aload_n 0, 1) := by decide +kernel
theorem dX5_kindHere_1 : decode cX5_kindHere 1 = .ok (.bipush 99, 2) := by decide +kernel
theorem dX5_kindHere_3 : decode cX5_kindHere 3 = .ok (.bipush 117, 2) := by decide +kernel
theorem dX5_kindHere_5 : decode cX5_kindHere 5 = .ok (.bipush 114, 2) := by decide +kernel
theorem dX5_kindHere_7 : decode cX5_kindHere 7 = .ok (.bipush 118, 2) := by decide +kernel
theorem dX5_kindHere_9 : decode cX5_kindHere 9 = .ok (.bipush 101, 2) := by decide +kernel
theorem dX5_kindHere_11 : decode cX5_kindHere 11 = .ok (.iconst 0, 1) := by decide +kernel
theorem dX5_kindHere_12 : decode cX5_kindHere 12 = .ok (.iconst 0, 1) := by decide +kernel
theorem dX5_kindHere_13 : decode cX5_kindHere 13 = .ok (.iconst 0, 1) := by decide +kernel
theorem dX5_kindHere_14 : decode cX5_kindHere 14 = .ok (.iconst 0, 1) := by decide +kernel
theorem dX5_kindHere_15 : decode cX5_kindHere 15 = .ok (.invokevirtual 222, 3) := by decide +kernel
theorem dX5_kindHere_18 : decode cX5_kindHere 18 = .ok (.ifCond .eq 5, 3) := by decide +kernel
theorem dX5_kindHere_21 : decode cX5_kindHere 21 = .ok (.iconst 0, 1) := by decide +kernel
theorem dX5_kindHere_22 : decode cX5_kindHere 22 = .ok (.ireturn, 1) := by decide +kernel
theorem dX5_kindHere_23 : decode cX5_kindHere 23 = .ok (.aload_n 0, 1) := by decide +kernel
theorem dX5_kindHere_24 : decode cX5_kindHere 24 = .ok (.bipush 97, 2) := by decide +kernel
theorem dX5_kindHere_26 : decode cX5_kindHere 26 = .ok (.bipush 100, 2) := by decide +kernel
theorem dX5_kindHere_28 : decode cX5_kindHere 28 = .ok (.bipush 100, 2) := by decide +kernel
theorem dX5_kindHere_30 : decode cX5_kindHere 30 = .ok (.bipush 101, 2) := by decide +kernel
theorem dX5_kindHere_32 : decode cX5_kindHere 32 = .ok (.bipush 100, 2) := by decide +kernel
theorem dX5_kindHere_34 : decode cX5_kindHere 34 = .ok (.iconst 0, 1) := by decide +kernel
theorem dX5_kindHere_35 : decode cX5_kindHere 35 = .ok (.iconst 0, 1) := by decide +kernel
theorem dX5_kindHere_36 : decode cX5_kindHere 36 = .ok (.iconst 0, 1) := by decide +kernel
theorem dX5_kindHere_37 : decode cX5_kindHere 37 = .ok (.iconst 0, 1) := by decide +kernel
theorem dX5_kindHere_38 : decode cX5_kindHere 38 = .ok (.invokevirtual 222, 3) := by decide +kernel
theorem dX5_kindHere_41 : decode cX5_kindHere 41 = .ok (.ifCond .eq 7, 3) := by decide +kernel
theorem dX5_kindHere_44 : decode cX5_kindHere 44 = .ok (.iconst 1, 1) := by decide +kernel
theorem dX5_kindHere_45 : decode cX5_kindHere 45 = .ok (.goto 137, 3) := by decide +kernel
theorem dX5_kindHere_48 : decode cX5_kindHere 48 = .ok (.aload_n 0, 1) := by decide +kernel
theorem dX5_kindHere_49 : decode cX5_kindHere 49 = .ok (.bipush 115, 2) := by decide +kernel
theorem dX5_kindHere_51 : decode cX5_kindHere 51 = .ok (.bipush 116, 2) := by decide +kernel
theorem dX5_kindHere_53 : decode cX5_kindHere 53 = .ok (.bipush 114, 2) := by decide +kernel
theorem dX5_kindHere_55 : decode cX5_kindHere 55 = .ok (.bipush 101, 2) := by decide +kernel
theorem dX5_kindHere_57 : decode cX5_kindHere 57 = .ok (.bipush 116, 2) := by decide +kernel
theorem dX5_kindHere_59 : decode cX5_kindHere 59 = .ok (.bipush 99, 2) := by decide +kernel
theorem dX5_kindHere_61 : decode cX5_kindHere 61 = .ok (.bipush 104, 2) := by decide +kernel
theorem dX5_kindHere_63 : decode cX5_kindHere 63 = .ok (.bipush 101, 2) := by decide +kernel
theorem dX5_kindHere_65 : decode cX5_kindHere 65 = .ok (.bipush 100, 2) := by decide +kernel
theorem dX5_kindHere_67 : decode cX5_kindHere 67 = .ok (.invokevirtual 222, 3) := by decide +kernel
theorem dX5_kindHere_70 : decode cX5_kindHere 70 = .ok (.ifCond .eq 7, 3) := by decide +kernel
theorem dX5_kindHere_73 : decode cX5_kindHere 73 = .ok (.iconst 2, 1) := by decide +kernel
theorem dX5_kindHere_74 : decode cX5_kindHere 74 = .ok (.goto 108, 3) := by decide +kernel
theorem dX5_kindHere_77 : decode cX5_kindHere 77 = .ok (.aload_n 0, 1) := by decide +kernel
theorem dX5_kindHere_78 : decode cX5_kindHere 78 = .ok (.bipush 98, 2) := by decide +kernel
theorem dX5_kindHere_80 : decode cX5_kindHere 80 = .ok (.bipush 101, 2) := by decide +kernel
theorem dX5_kindHere_82 : decode cX5_kindHere 82 = .ok (.bipush 110, 2) := by decide +kernel
theorem dX5_kindHere_84 : decode cX5_kindHere 84 = .ok (.bipush 116, 2) := by decide +kernel
theorem dX5_kindHere_86 : decode cX5_kindHere 86 = .ok (.iconst 0, 1) := by decide +kernel
theorem dX5_kindHere_87 : decode cX5_kindHere 87 = .ok (.iconst 0, 1) := by decide +kernel
theorem dX5_kindHere_88 : decode cX5_kindHere 88 = .ok (.iconst 0, 1) := by decide +kernel
theorem dX5_kindHere_89 : decode cX5_kindHere 89 = .ok (.iconst 0, 1) := by decide +kernel
theorem dX5_kindHere_90 : decode cX5_kindHere 90 = .ok (.iconst 0, 1) := by decide +kernel
theorem dX5_kindHere_91 : decode cX5_kindHere 91 = .ok (.invokevirtual 222, 3) := by decide +kernel
theorem dX5_kindHere_94 : decode cX5_kindHere 94 = .ok (.ifCond .eq 7, 3) := by decide +kernel
theorem dX5_kindHere_97 : decode cX5_kindHere 97 = .ok (.iconst 3, 1) := by decide +kernel
theorem dX5_kindHere_98 : decode cX5_kindHere 98 = .ok (.goto 84, 3) := by decide +kernel
theorem dX5_kindHere_101 : decode cX5_kindHere 101 = .ok (.aload_n 0, 1) := by decide +kernel
theorem dX5_kindHere_102 : decode cX5_kindHere 102 = .ok (.bipush 115, 2) := by decide +kernel
theorem dX5_kindHere_104 : decode cX5_kindHere 104 = .ok (.bipush 104, 2) := by decide +kernel
theorem dX5_kindHere_106 : decode cX5_kindHere 106 = .ok (.bipush 97, 2) := by decide +kernel
theorem dX5_kindHere_108 : decode cX5_kindHere 108 = .ok (.bipush 114, 2) := by decide +kernel
theorem dX5_kindHere_110 : decode cX5_kindHere 110 = .ok (.bipush 101, 2) := by decide +kernel
theorem dX5_kindHere_112 : decode cX5_kindHere 112 = .ok (.bipush 100, 2) := by decide +kernel
theorem dX5_kindHere_114 : decode cX5_kindHere 114 = .ok (.iconst 0, 1) := by decide +kernel
theorem dX5_kindHere_115 : decode cX5_kindHere 115 = .ok (.iconst 0, 1) := by decide +kernel
theorem dX5_kindHere_116 : decode cX5_kindHere 116 = .ok (.iconst 0, 1) := by decide +kernel
theorem dX5_kindHere_117 : decode cX5_kindHere 117 = .ok (.invokevirtual 222, 3) := by decide +kernel
theorem dX5_kindHere_120 : decode cX5_kindHere 120 = .ok (.ifCond .eq 7, 3) := by decide +kernel
theorem dX5_kindHere_123 : decode cX5_kindHere 123 = .ok (.iconst 4, 1) := by decide +kernel
theorem dX5_kindHere_124 : decode cX5_kindHere 124 = .ok (.goto 58, 3) := by decide +kernel
theorem dX5_kindHere_127 : decode cX5_kindHere 127 = .ok (.aload_n 0, 1) := by decide +kernel
theorem dX5_kindHere_128 : decode cX5_kindHere 128 = .ok (.bipush 108, 2) := by decide +kernel
theorem dX5_kindHere_130 : decode cX5_kindHere 130 = .ok (.bipush 105, 2) := by decide +kernel
theorem dX5_kindHere_132 : decode cX5_kindHere 132 = .ok (.bipush 110, 2) := by decide +kernel
theorem dX5_kindHere_134 : decode cX5_kindHere 134 = .ok (.bipush 107, 2) := by decide +kernel
theorem dX5_kindHere_136 : decode cX5_kindHere 136 = .ok (.bipush 101, 2) := by decide +kernel
theorem dX5_kindHere_138 : decode cX5_kindHere 138 = .ok (.bipush 100, 2) := by decide +kernel
theorem dX5_kindHere_140 : decode cX5_kindHere 140 = .ok (.iconst 0, 1) := by decide +kernel
theorem dX5_kindHere_141 : decode cX5_kindHere 141 = .ok (.iconst 0, 1) := by decide +kernel
theorem dX5_kindHere_142 : decode cX5_kindHere 142 = .ok (.iconst 0, 1) := by decide +kernel
theorem dX5_kindHere_143 : decode cX5_kindHere 143 = .ok (.invokevirtual 222, 3) := by decide +kernel
theorem dX5_kindHere_146 : decode cX5_kindHere 146 = .ok (.ifCond .eq 7, 3) := by decide +kernel
theorem dX5_kindHere_149 : decode cX5_kindHere 149 = .ok (.iconst 5, 1) := by decide +kernel
theorem dX5_kindHere_150 : decode cX5_kindHere 150 = .ok (.goto 32, 3) := by decide +kernel
theorem dX5_kindHere_153 : decode cX5_kindHere 153 = .ok (.aload_n 0, 1) := by decide +kernel
theorem dX5_kindHere_154 : decode cX5_kindHere 154 = .ok (.bipush 100, 2) := by decide +kernel
theorem dX5_kindHere_156 : decode cX5_kindHere 156 = .ok (.bipush 114, 2) := by decide +kernel
theorem dX5_kindHere_158 : decode cX5_kindHere 158 = .ok (.bipush 111, 2) := by decide +kernel
theorem dX5_kindHere_160 : decode cX5_kindHere 160 = .ok (.bipush 112, 2) := by decide +kernel
theorem dX5_kindHere_162 : decode cX5_kindHere 162 = .ok (.bipush 112, 2) := by decide +kernel
theorem dX5_kindHere_164 : decode cX5_kindHere 164 = .ok (.bipush 101, 2) := by decide +kernel
theorem dX5_kindHere_166 : decode cX5_kindHere 166 = .ok (.bipush 100, 2) := by decide +kernel
theorem dX5_kindHere_168 : decode cX5_kindHere 168 = .ok (.iconst 0, 1) := by decide +kernel
theorem dX5_kindHere_169 : decode cX5_kindHere 169 = .ok (.iconst 0, 1) := by decide +kernel
theorem dX5_kindHere_170 : decode cX5_kindHere 170 = .ok (.invokevirtual 222, 3) := by decide +kernel
theorem dX5_kindHere_173 : decode cX5_kindHere 173 = .ok (.ifCond .eq 8, 3) := by decide +kernel
theorem dX5_kindHere_176 : decode cX5_kindHere 176 = .ok (.bipush 6, 2) := by decide +kernel
theorem dX5_kindHere_178 : decode cX5_kindHere 178 = .ok (.goto 4, 3) := by decide +kernel
theorem dX5_kindHere_181 : decode cX5_kindHere 181 = .ok (.iconst (-1), 1) := by decide +kernel
theorem dX5_kindHere_182 : decode cX5_kindHere 182 = .ok (.ireturn, 1) := by decide +kernel
theorem dX5_curveItem_0 : decode cX5_curveItem 0 = .ok (.aload_n 0, 1) := by decide +kernel
theorem dX5_curveItem_1 : decode cX5_curveItem 1 = .ok (.aload_n 0, 1) := by decide +kernel
theorem dX5_curveItem_2 : decode cX5_curveItem 2 = .ok (.getfield 7, 3) := by decide +kernel
theorem dX5_curveItem_5 : decode cX5_curveItem 5 = .ok (.bipush 18, 2) := by decide +kernel
theorem dX5_curveItem_7 : decode cX5_curveItem 7 = .ok (.iaload, 1) := by decide +kernel
theorem dX5_curveItem_8 : decode cX5_curveItem 8 = .ok (.bipush 6, 2) := by decide +kernel
theorem dX5_curveItem_10 : decode cX5_curveItem 10 = .ok (.if_icmp .ge 7, 3) := by decide +kernel
theorem dX5_curveItem_13 : decode cX5_curveItem 13 = .ok (.iconst 1, 1) := by decide +kernel
theorem dX5_curveItem_14 : decode cX5_curveItem 14 = .ok (.goto 4, 3) := by decide +kernel
theorem dX5_curveItem_17 : decode cX5_curveItem 17 = .ok (.iconst 0, 1) := by decide +kernel
theorem dX5_curveItem_18 : decode cX5_curveItem 18 = .ok (.invokevirtual 218, 3) := by decide +kernel
theorem dX5_curveItem_21 : decode cX5_curveItem 21 = .ok (.iconst 0, 1) := by decide +kernel
theorem dX5_curveItem_22 : decode cX5_curveItem 22 = .ok (.istore_n 2, 1) := by decide +kernel
theorem dX5_curveItem_23 : decode cX5_curveItem 23 = .ok (.aload_n 0, 1) := by decide +kernel
theorem dX5_curveItem_24 : decode cX5_curveItem 24 = .ok (.bipush 98, 2) := by decide +kernel
theorem dX5_curveItem_26 : decode cX5_curveItem 26 = .ok (.bipush 121, 2) := by decide +kernel
theorem dX5_curveItem_28 : decode cX5_curveItem 28 = .ok (.iconst 0, 1) := by decide +kernel
theorem dX5_curveItem_29 : decode cX5_curveItem 29 = .ok (.iconst 0, 1) := by decide +kernel
theorem dX5_curveItem_30 : decode cX5_curveItem 30 = .ok (.iconst 0, 1) := by decide +kernel
theorem dX5_curveItem_31 : decode cX5_curveItem 31 = .ok (.iconst 0, 1) := by decide +kernel
theorem dX5_curveItem_32 : decode cX5_curveItem 32 = .ok (.iconst 0, 1) := by decide +kernel
theorem dX5_curveItem_33 : decode cX5_curveItem 33 = .ok (.iconst 0, 1) := by decide +kernel
theorem dX5_curveItem_34 : decode cX5_curveItem 34 = .ok (.iconst 0, 1) := by decide +kernel
theorem dX5_curveItem_35 : decode cX5_curveItem 35 = .ok (.invokevirtual 222, 3) := by decide +kernel
theorem dX5_curveItem_38 : decode cX5_curveItem 38 = .ok (.ifCond .eq 20, 3) := by decide +kernel
theorem dX5_curveItem_41 : decode cX5_curveItem 41 = .ok (.aload_n 0, 1) := by decide +kernel
theorem dX5_curveItem_42 : decode cX5_curveItem 42 = .ok (.iconst 1, 1) := by decide +kernel
theorem dX5_curveItem_43 : decode cX5_curveItem 43 = .ok (.invokevirtual 218, 3) := by decide +kernel
theorem dX5_curveItem_46 : decode cX5_curveItem 46 = .ok (.aload_n 0, 1) := by decide +kernel
theorem dX5_curveItem_47 : decode cX5_curveItem 47 = .ok (.iconst 0, 1) := by decide +kernel
theorem dX5_curveItem_48 : decode cX5_curveItem 48 = .ok (.bipush 100, 2) := by decide +kernel
theorem dX5_curveItem_50 : decode cX5_curveItem 50 = .ok (.invokevirtual 226, 3) := by decide +kernel
theorem dX5_curveItem_53 : decode cX5_curveItem 53 = .ok (.aload_n 0, 1) := by decide +kernel
theorem dX5_curveItem_54 : decode cX5_curveItem 54 = .ok (.getfield 215, 3) := by decide +kernel
theorem dX5_curveItem_57 : decode cX5_curveItem 57 = .ok (.istore_n 2, 1) := by decide +kernel
theorem dX5_curveItem_58 : decode cX5_curveItem 58 = .ok (.aload_n 0, 1) := by decide +kernel
theorem dX5_curveItem_59 : decode cX5_curveItem 59 = .ok (.getfield 204, 3) := by decide +kernel
theorem dX5_curveItem_62 : decode cX5_curveItem 62 = .ok (.ifCond .ne 10, 3) := by decide +kernel
theorem dX5_curveItem_65 : decode cX5_curveItem 65 = .ok (.aload_n 0, 1) := by decide +kernel
theorem dX5_curveItem_66 : decode cX5_curveItem 66 = .ok (.iload_n 1, 1) := by decide +kernel
theorem dX5_curveItem_67 : decode cX5_curveItem 67 = .ok (.iload_n 2, 1) := by decide +kernel
theorem dX5_curveItem_68 : decode cX5_curveItem 68 = .ok (.invokevirtual 111, 3) := by decide +kernel
theorem dX5_curveItem_71 : decode cX5_curveItem 71 = .ok (.istore_n 3, 1) := by decide +kernel
theorem dX5_curveItem_72 : decode cX5_curveItem 72 = .ok (.return_, 1) := by decide +kernel
theorem dX5_pupilItem_0 : decode cX5_pupilItem 0 = .ok (.aload_n 0, 1) := by decide +kernel
theorem dX5_pupilItem_1 : decode cX5_pupilItem 1 = .ok (.aload_n 0, 1) := by decide +kernel
theorem dX5_pupilItem_2 : decode cX5_pupilItem 2 = .ok (.getfield 7, 3) := by decide +kernel
theorem dX5_pupilItem_5 : decode cX5_pupilItem 5 = .ok (.bipush 17, 2) := by decide +kernel
theorem dX5_pupilItem_7 : decode cX5_pupilItem 7 = .ok (.iaload, 1) := by decide +kernel
theorem dX5_pupilItem_8 : decode cX5_pupilItem 8 = .ok (.bipush 12, 2) := by decide +kernel
theorem dX5_pupilItem_10 : decode cX5_pupilItem 10 = .ok (.if_icmp .ge 7, 3) := by decide +kernel
theorem dX5_pupilItem_13 : decode cX5_pupilItem 13 = .ok (.iconst 1, 1) := by decide +kernel
theorem dX5_pupilItem_14 : decode cX5_pupilItem 14 = .ok (.goto 4, 3) := by decide +kernel
theorem dX5_pupilItem_17 : decode cX5_pupilItem 17 = .ok (.iconst 0, 1) := by decide +kernel
theorem dX5_pupilItem_18 : decode cX5_pupilItem 18 = .ok (.invokevirtual 218, 3) := by decide +kernel
theorem dX5_pupilItem_21 : decode cX5_pupilItem 21 = .ok (.aload_n 0, 1) := by decide +kernel
theorem dX5_pupilItem_22 : decode cX5_pupilItem 22 = .ok (.iconst 0, 1) := by decide +kernel
theorem dX5_pupilItem_23 : decode cX5_pupilItem 23 = .ok (.iconst 3, 1) := by decide +kernel
theorem dX5_pupilItem_24 : decode cX5_pupilItem 24 = .ok (.invokevirtual 226, 3) := by decide +kernel
theorem dX5_pupilItem_27 : decode cX5_pupilItem 27 = .ok (.aload_n 0, 1) := by decide +kernel
theorem dX5_pupilItem_28 : decode cX5_pupilItem 28 = .ok (.getfield 204, 3) := by decide +kernel
theorem dX5_pupilItem_31 : decode cX5_pupilItem 31 = .ok (.ifCond .eq 4, 3) := by decide +kernel
theorem dX5_pupilItem_34 : decode cX5_pupilItem 34 = .ok (.return_, 1) := by decide +kernel
theorem dX5_pupilItem_35 : decode cX5_pupilItem 35 = .ok (.aload_n 0, 1) := by decide +kernel
theorem dX5_pupilItem_36 : decode cX5_pupilItem 36 = .ok (.aload_n 0, 1) := by decide +kernel
theorem dX5_pupilItem_37 : decode cX5_pupilItem 37 = .ok (.getfield 215, 3) := by decide +kernel
theorem dX5_pupilItem_40 : decode cX5_pupilItem 40 = .ok (.invokevirtual 72, 3) := by decide +kernel
theorem dX5_pupilItem_43 : decode cX5_pupilItem 43 = .ok (.istore_n 1, 1) := by decide +kernel
theorem dX5_pupilItem_44 : decode cX5_pupilItem 44 = .ok (.iconst 0, 1) := by decide +kernel
theorem dX5_pupilItem_45 : decode cX5_pupilItem 45 = .ok (.istore_n 2, 1) := by decide +kernel
theorem dX5_pupilItem_46 : decode cX5_pupilItem 46 = .ok (.iload_n 2, 1) := by decide +kernel
theorem dX5_pupilItem_47 : decode cX5_pupilItem 47 = .ok (.bipush 8, 2) := by decide +kernel
theorem dX5_pupilItem_49 : decode cX5_pupilItem 49 = .ok (.if_icmp .ge 80, 3) := by decide +kernel
theorem dX5_pupilItem_52 : decode cX5_pupilItem 52 = .ok (.aload_n 0, 1) := by decide +kernel
theorem dX5_pupilItem_53 : decode cX5_pupilItem 53 = .ok (.getfield 204, 3) := by decide +kernel
theorem dX5_pupilItem_56 : decode cX5_pupilItem 56 = .ok (.ifCond .ne 73, 3) := by decide +kernel
theorem dX5_pupilItem_59 : decode cX5_pupilItem 59 = .ok (.aload_n 0, 1) := by decide +kernel
theorem dX5_pupilItem_60 : decode cX5_pupilItem 60 = .ok (.aload_n 0, 1) := by decide +kernel
theorem dX5_pupilItem_61 : decode cX5_pupilItem 61 = .ok (.getfield 192, 3) := by decide +kernel
theorem dX5_pupilItem_64 : decode cX5_pupilItem 64 = .ok (.invokevirtual 195, 3) := by decide +kernel
theorem dX5_pupilItem_67 : decode cX5_pupilItem 67 = .ok (.invokestatic 201, 3) := by decide +kernel
theorem dX5_pupilItem_70 : decode cX5_pupilItem 70 = .ok (.ifCond .eq 59, 3) := by decide +kernel
theorem dX5_pupilItem_73 : decode cX5_pupilItem 73 = .ok (.aload_n 0, 1) := by decide +kernel
theorem dX5_pupilItem_74 : decode cX5_pupilItem 74 = .ok (.iconst 0, 1) := by decide +kernel
theorem dX5_pupilItem_75 : decode cX5_pupilItem 75 = .ok (.aload_n 0, 1) := by decide +kernel
theorem dX5_pupilItem_76 : decode cX5_pupilItem 76 = .ok (.getfield 7, 3) := by decide +kernel
theorem dX5_pupilItem_79 : decode cX5_pupilItem 79 = .ok (.iconst 0, 1) := by decide +kernel
theorem dX5_pupilItem_80 : decode cX5_pupilItem 80 = .ok (.iload_n 2, 1) := by decide +kernel
theorem dX5_pupilItem_81 : decode cX5_pupilItem 81 = .ok (.iadd, 1) := by decide +kernel
theorem dX5_pupilItem_82 : decode cX5_pupilItem 82 = .ok (.iaload, 1) := by decide +kernel
theorem dX5_pupilItem_83 : decode cX5_pupilItem 83 = .ok (.invokevirtual 226, 3) := by decide +kernel
theorem dX5_pupilItem_86 : decode cX5_pupilItem 86 = .ok (.aload_n 0, 1) := by decide +kernel
theorem dX5_pupilItem_87 : decode cX5_pupilItem 87 = .ok (.getfield 204, 3) := by decide +kernel
theorem dX5_pupilItem_90 : decode cX5_pupilItem 90 = .ok (.ifCond .ne 33, 3) := by decide +kernel
theorem dX5_pupilItem_93 : decode cX5_pupilItem 93 = .ok (.aload_n 0, 1) := by decide +kernel
theorem dX5_pupilItem_94 : decode cX5_pupilItem 94 = .ok (.getfield 7, 3) := by decide +kernel
theorem dX5_pupilItem_97 : decode cX5_pupilItem 97 = .ok (.iload_n 1, 1) := by decide +kernel
theorem dX5_pupilItem_98 : decode cX5_pupilItem 98 = .ok (.iconst 0, 1) := by decide +kernel
theorem dX5_pupilItem_99 : decode cX5_pupilItem 99 = .ok (.iload_n 2, 1) := by decide +kernel
theorem dX5_pupilItem_100 : decode cX5_pupilItem 100 = .ok (.invokestatic 49, 3) := by decide +kernel
theorem dX5_pupilItem_103 : decode cX5_pupilItem 103 = .ok (.aload_n 0, 1) := by decide +kernel
theorem dX5_pupilItem_104 : decode cX5_pupilItem 104 = .ok (.getfield 215, 3) := by decide +kernel
theorem dX5_pupilItem_107 : decode cX5_pupilItem 107 = .ok (.iastore, 1) := by decide +kernel
theorem dX5_pupilItem_108 : decode cX5_pupilItem 108 = .ok (.aload_n 0, 1) := by decide +kernel
theorem dX5_pupilItem_109 : decode cX5_pupilItem 109 = .ok (.getfield 7, 3) := by decide +kernel
theorem dX5_pupilItem_112 : decode cX5_pupilItem 112 = .ok (.iload_n 1, 1) := by decide +kernel
theorem dX5_pupilItem_113 : decode cX5_pupilItem 113 = .ok (.iconst 1, 1) := by decide +kernel
theorem dX5_pupilItem_114 : decode cX5_pupilItem 114 = .ok (.iload_n 2, 1) := by decide +kernel
theorem dX5_pupilItem_115 : decode cX5_pupilItem 115 = .ok (.invokestatic 49, 3) := by decide +kernel
theorem dX5_pupilItem_118 : decode cX5_pupilItem 118 = .ok (.aload_n 0, 1) := by decide +kernel
theorem dX5_pupilItem_119 : decode cX5_pupilItem 119 = .ok (.getfield 215, 3) := by decide +kernel
theorem dX5_pupilItem_122 : decode cX5_pupilItem 122 = .ok (.iastore, 1) := by decide +kernel
theorem dX5_pupilItem_123 : decode cX5_pupilItem 123 = .ok (.iinc 2 1, 3) := by decide +kernel
theorem dX5_pupilItem_126 : decode cX5_pupilItem 126 = .ok (.goto (-80), 3) := by decide +kernel
theorem dX5_pupilItem_129 : decode cX5_pupilItem 129 = .ok (.return_, 1) := by decide +kernel
theorem dX5_item_0 : decode cX5_item 0 = .ok (.aload_n 0, 1) := by decide +kernel
theorem dX5_item_1 : decode cX5_item 1 = .ok (.invokevirtual 228, 3) := by decide +kernel
theorem dX5_item_4 : decode cX5_item 4 = .ok (.istore_n 1, 1) := by decide +kernel
theorem dX5_item_5 : decode cX5_item 5 = .ok (.iload_n 1, 1) := by decide +kernel
theorem dX5_item_6 : decode cX5_item 6 = .ok (.ifCond .lt 11, 3) := by decide +kernel
theorem dX5_item_9 : decode cX5_item 9 = .ok (.aload_n 0, 1) := by decide +kernel
theorem dX5_item_10 : decode cX5_item 10 = .ok (.iload_n 1, 1) := by decide +kernel
theorem dX5_item_11 : decode cX5_item 11 = .ok (.invokevirtual 231, 3) := by decide +kernel
theorem dX5_item_14 : decode cX5_item 14 = .ok (.goto 183, 3) := by decide +kernel
theorem dX5_item_17 : decode cX5_item 17 = .ok (.aload_n 0, 1) := by decide +kernel
theorem dX5_item_18 : decode cX5_item 18 = .ok (.bipush 112, 2) := by decide +kernel
theorem dX5_item_20 : decode cX5_item 20 = .ok (.bipush 117, 2) := by decide +kernel
theorem dX5_item_22 : decode cX5_item 22 = .ok (.bipush 112, 2) := by decide +kernel
theorem dX5_item_24 : decode cX5_item 24 = .ok (.bipush 105, 2) := by decide +kernel
theorem dX5_item_26 : decode cX5_item 26 = .ok (.bipush 108, 2) := by decide +kernel
theorem dX5_item_28 : decode cX5_item 28 = .ok (.iconst 0, 1) := by decide +kernel
theorem dX5_item_29 : decode cX5_item 29 = .ok (.iconst 0, 1) := by decide +kernel
theorem dX5_item_30 : decode cX5_item 30 = .ok (.iconst 0, 1) := by decide +kernel
theorem dX5_item_31 : decode cX5_item 31 = .ok (.iconst 0, 1) := by decide +kernel
theorem dX5_item_32 : decode cX5_item 32 = .ok (.invokevirtual 222, 3) := by decide +kernel
theorem dX5_item_35 : decode cX5_item 35 = .ok (.ifCond .eq 10, 3) := by decide +kernel
theorem dX5_item_38 : decode cX5_item 38 = .ok (.aload_n 0, 1) := by decide +kernel
theorem dX5_item_39 : decode cX5_item 39 = .ok (.invokevirtual 234, 3) := by decide +kernel
theorem dX5_item_42 : decode cX5_item 42 = .ok (.goto 155, 3) := by decide +kernel
theorem dX5_item_45 : decode cX5_item 45 = .ok (.aload_n 0, 1) := by decide +kernel
theorem dX5_item_46 : decode cX5_item 46 = .ok (.bipush 99, 2) := by decide +kernel
theorem dX5_item_48 : decode cX5_item 48 = .ok (.bipush 111, 2) := by decide +kernel
theorem dX5_item_50 : decode cX5_item 50 = .ok (.bipush 109, 2) := by decide +kernel
theorem dX5_item_52 : decode cX5_item 52 = .ok (.bipush 109, 2) := by decide +kernel
theorem dX5_item_54 : decode cX5_item 54 = .ok (.bipush 111, 2) := by decide +kernel
theorem dX5_item_56 : decode cX5_item 56 = .ok (.bipush 110, 2) := by decide +kernel
theorem dX5_item_58 : decode cX5_item 58 = .ok (.iconst 0, 1) := by decide +kernel
theorem dX5_item_59 : decode cX5_item 59 = .ok (.iconst 0, 1) := by decide +kernel
theorem dX5_item_60 : decode cX5_item 60 = .ok (.iconst 0, 1) := by decide +kernel
theorem dX5_item_61 : decode cX5_item 61 = .ok (.invokevirtual 222, 3) := by decide +kernel
theorem dX5_item_64 : decode cX5_item 64 = .ok (.ifCond .eq 51, 3) := by decide +kernel
theorem dX5_item_67 : decode cX5_item 67 = .ok (.aload_n 0, 1) := by decide +kernel
theorem dX5_item_68 : decode cX5_item 68 = .ok (.iconst 1, 1) := by decide +kernel
theorem dX5_item_69 : decode cX5_item 69 = .ok (.invokevirtual 218, 3) := by decide +kernel
theorem dX5_item_72 : decode cX5_item 72 = .ok (.aload_n 0, 1) := by decide +kernel
theorem dX5_item_73 : decode cX5_item 73 = .ok (.iconst 0, 1) := by decide +kernel
theorem dX5_item_74 : decode cX5_item 74 = .ok (.bipush 7, 2) := by decide +kernel
theorem dX5_item_76 : decode cX5_item 76 = .ok (.invokevirtual 226, 3) := by decide +kernel
theorem dX5_item_79 : decode cX5_item 79 = .ok (.aload_n 0, 1) := by decide +kernel
theorem dX5_item_80 : decode cX5_item 80 = .ok (.getfield 215, 3) := by decide +kernel
theorem dX5_item_83 : decode cX5_item 83 = .ok (.istore_n 2, 1) := by decide +kernel
theorem dX5_item_84 : decode cX5_item 84 = .ok (.aload_n 0, 1) := by decide +kernel
theorem dX5_item_85 : decode cX5_item 85 = .ok (.iconst 0, 1) := by decide +kernel
theorem dX5_item_86 : decode cX5_item 86 = .ok (.sipush 400, 3) := by decide +kernel
theorem dX5_item_89 : decode cX5_item 89 = .ok (.invokevirtual 226, 3) := by decide +kernel
theorem dX5_item_92 : decode cX5_item 92 = .ok (.aload_n 0, 1) := by decide +kernel
theorem dX5_item_93 : decode cX5_item 93 = .ok (.getfield 204, 3) := by decide +kernel
theorem dX5_item_96 : decode cX5_item 96 = .ok (.ifCond .ne 16, 3) := by decide +kernel
theorem dX5_item_99 : decode cX5_item 99 = .ok (.aload_n 0, 1) := by decide +kernel
theorem dX5_item_100 : decode cX5_item 100 = .ok (.getfield 7, 3) := by decide +kernel
theorem dX5_item_103 : decode cX5_item 103 = .ok (.bipush 8, 2) := by decide +kernel
theorem dX5_item_105 : decode cX5_item 105 = .ok (.iload_n 2, 1) := by decide +kernel
theorem dX5_item_106 : decode cX5_item 106 = .ok (.iadd, 1) := by decide +kernel
theorem dX5_item_107 : decode cX5_item 107 = .ok (.aload_n 0, 1) := by decide +kernel
theorem dX5_item_108 : decode cX5_item 108 = .ok (.getfield 215, 3) := by decide +kernel
theorem dX5_item_111 : decode cX5_item 111 = .ok (.iastore, 1) := by decide +kernel
theorem dX5_item_112 : decode cX5_item 112 = .ok (.goto 85, 3) := by decide +kernel
theorem dX5_item_115 : decode cX5_item 115 = .ok (.aload_n 0, 1) := by decide +kernel
theorem dX5_item_116 : decode cX5_item 116 = .ok (.aload_n 0, 1) := by decide +kernel
theorem dX5_item_117 : decode cX5_item 117 = .ok (.bipush 113, 2) := by decide +kernel
theorem dX5_item_119 : decode cX5_item 119 = .ok (.bipush 117, 2) := by decide +kernel
theorem dX5_item_121 : decode cX5_item 121 = .ok (.bipush 101, 2) := by decide +kernel
theorem dX5_item_123 : decode cX5_item 123 = .ok (.bipush 115, 2) := by decide +kernel
theorem dX5_item_125 : decode cX5_item 125 = .ok (.bipush 116, 2) := by decide +kernel
theorem dX5_item_127 : decode cX5_item 127 = .ok (.bipush 105, 2) := by decide +kernel
theorem dX5_item_129 : decode cX5_item 129 = .ok (.bipush 111, 2) := by decide +kernel
theorem dX5_item_131 : decode cX5_item 131 = .ok (.bipush 110, 2) := by decide +kernel
theorem dX5_item_133 : decode cX5_item 133 = .ok (.iconst 0, 1) := by decide +kernel
theorem dX5_item_134 : decode cX5_item 134 = .ok (.invokevirtual 222, 3) := by decide +kernel
theorem dX5_item_137 : decode cX5_item 137 = .ok (.invokevirtual 218, 3) := by decide +kernel
theorem dX5_item_140 : decode cX5_item 140 = .ok (.aload_n 0, 1) := by decide +kernel
theorem dX5_item_141 : decode cX5_item 141 = .ok (.iconst 0, 1) := by decide +kernel
theorem dX5_item_142 : decode cX5_item 142 = .ok (.bipush 7, 2) := by decide +kernel
theorem dX5_item_144 : decode cX5_item 144 = .ok (.invokevirtual 226, 3) := by decide +kernel
theorem dX5_item_147 : decode cX5_item 147 = .ok (.aload_n 0, 1) := by decide +kernel
theorem dX5_item_148 : decode cX5_item 148 = .ok (.getfield 215, 3) := by decide +kernel
theorem dX5_item_151 : decode cX5_item 151 = .ok (.istore_n 2, 1) := by decide +kernel
theorem dX5_item_152 : decode cX5_item 152 = .ok (.aload_n 0, 1) := by decide +kernel
theorem dX5_item_153 : decode cX5_item 153 = .ok (.aload_n 0, 1) := by decide +kernel
theorem dX5_item_154 : decode cX5_item 154 = .ok (.bipush 119, 2) := by decide +kernel
theorem dX5_item_156 : decode cX5_item 156 = .ok (.bipush 111, 2) := by decide +kernel
theorem dX5_item_158 : decode cX5_item 158 = .ok (.bipush 114, 2) := by decide +kernel
theorem dX5_item_160 : decode cX5_item 160 = .ok (.bipush 116, 2) := by decide +kernel
theorem dX5_item_162 : decode cX5_item 162 = .ok (.bipush 104, 2) := by decide +kernel
theorem dX5_item_164 : decode cX5_item 164 = .ok (.iconst 0, 1) := by decide +kernel
theorem dX5_item_165 : decode cX5_item 165 = .ok (.iconst 0, 1) := by decide +kernel
theorem dX5_item_166 : decode cX5_item 166 = .ok (.iconst 0, 1) := by decide +kernel
theorem dX5_item_167 : decode cX5_item 167 = .ok (.iconst 0, 1) := by decide +kernel
theorem dX5_item_168 : decode cX5_item 168 = .ok (.invokevirtual 222, 3) := by decide +kernel
theorem dX5_item_171 : decode cX5_item 171 = .ok (.invokevirtual 218, 3) := by decide +kernel
theorem dX5_item_174 : decode cX5_item 174 = .ok (.aload_n 0, 1) := by decide +kernel
theorem dX5_item_175 : decode cX5_item 175 = .ok (.iconst 0, 1) := by decide +kernel
theorem dX5_item_176 : decode cX5_item 176 = .ok (.bipush 40, 2) := by decide +kernel
theorem dX5_item_178 : decode cX5_item 178 = .ok (.invokevirtual 226, 3) := by decide +kernel
theorem dX5_item_181 : decode cX5_item 181 = .ok (.aload_n 0, 1) := by decide +kernel
theorem dX5_item_182 : decode cX5_item 182 = .ok (.getfield 204, 3) := by decide +kernel
theorem dX5_item_185 : decode cX5_item 185 = .ok (.ifCond .ne 12, 3) := by decide +kernel
theorem dX5_item_188 : decode cX5_item 188 = .ok (.aload_n 0, 1) := by decide +kernel
theorem dX5_item_189 : decode cX5_item 189 = .ok (.iload_n 2, 1) := by decide +kernel
theorem dX5_item_190 : decode cX5_item 190 = .ok (.aload_n 0, 1) := by decide +kernel
theorem dX5_item_191 : decode cX5_item 191 = .ok (.getfield 215, 3) := by decide +kernel
theorem dX5_item_194 : decode cX5_item 194 = .ok (.invokevirtual 63, 3) := by decide +kernel
theorem dX5_item_197 : decode cX5_item 197 = .ok (.return_, 1) := by decide +kernel
theorem dX5_text_0 : decode cX5_text 0 = .ok (.aload_n 0, 1) := by decide +kernel
theorem dX5_text_1 : decode cX5_text 1 = .ok (.invokevirtual 146, 3) := by decide +kernel
theorem dX5_text_4 : decode cX5_text 4 = .ok (.aload_n 0, 1) := by decide +kernel
theorem dX5_text_5 : decode cX5_text 5 = .ok (.iconst 0, 1) := by decide +kernel
theorem dX5_text_6 : decode cX5_text 6 = .ok (.putfield 189, 3) := by decide +kernel
theorem dX5_text_9 : decode cX5_text 9 = .ok (.aload_n 0, 1) := by decide +kernel
theorem dX5_text_10 : decode cX5_text 10 = .ok (.iconst 0, 1) := by decide +kernel
theorem dX5_text_11 : decode cX5_text 11 = .ok (.putfield 204, 3) := by decide +kernel
theorem dX5_text_14 : decode cX5_text 14 = .ok (.aload_n 0, 1) := by decide +kernel
theorem dX5_text_15 : decode cX5_text 15 = .ok (.invokevirtual 208, 3) := by decide +kernel
theorem dX5_text_18 : decode cX5_text 18 = .ok (.iconst 1, 1) := by decide +kernel
theorem dX5_text_19 : decode cX5_text 19 = .ok (.istore_n 1, 1) := by decide +kernel
theorem dX5_text_20 : decode cX5_text 20 = .ok (.aload_n 0, 1) := by decide +kernel
theorem dX5_text_21 : decode cX5_text 21 = .ok (.invokevirtual 237, 3) := by decide +kernel
theorem dX5_text_24 : decode cX5_text 24 = .ok (.aload_n 0, 1) := by decide +kernel
theorem dX5_text_25 : decode cX5_text 25 = .ok (.getfield 204, 3) := by decide +kernel
theorem dX5_text_28 : decode cX5_text 28 = .ok (.ifCond .ne 46, 3) := by decide +kernel
theorem dX5_text_31 : decode cX5_text 31 = .ok (.aload_n 0, 1) := by decide +kernel
theorem dX5_text_32 : decode cX5_text 32 = .ok (.getfield 192, 3) := by decide +kernel
theorem dX5_text_35 : decode cX5_text 35 = .ok (.aload_n 0, 1) := by decide +kernel
theorem dX5_text_36 : decode cX5_text 36 = .ok (.getfield 177, 3) := by decide +kernel
theorem dX5_text_39 : decode cX5_text 39 = .ok (.if_icmp .ge 35, 3) := by decide +kernel
theorem dX5_text_42 : decode cX5_text 42 = .ok (.aload_n 0, 1) := by decide +kernel
theorem dX5_text_43 : decode cX5_text 43 = .ok (.aload_n 0, 1) := by decide +kernel
theorem dX5_text_44 : decode cX5_text 44 = .ok (.aload_n 0, 1) := by decide +kernel
theorem dX5_text_45 : decode cX5_text 45 = .ok (.getfield 192, 3) := by decide +kernel
theorem dX5_text_48 : decode cX5_text 48 = .ok (.invokevirtual 195, 3) := by decide +kernel
theorem dX5_text_51 : decode cX5_text 51 = .ok (.bipush 59, 2) := by decide +kernel
theorem dX5_text_53 : decode cX5_text 53 = .ok (.if_icmp .ne 7, 3) := by decide +kernel
theorem dX5_text_56 : decode cX5_text 56 = .ok (.iconst 1, 1) := by decide +kernel
theorem dX5_text_57 : decode cX5_text 57 = .ok (.goto 4, 3) := by decide +kernel
theorem dX5_text_60 : decode cX5_text 60 = .ok (.iconst 0, 1) := by decide +kernel
theorem dX5_text_61 : decode cX5_text 61 = .ok (.invokevirtual 218, 3) := by decide +kernel
theorem dX5_text_64 : decode cX5_text 64 = .ok (.aload_n 0, 1) := by decide +kernel
theorem dX5_text_65 : decode cX5_text 65 = .ok (.invokevirtual 237, 3) := by decide +kernel
theorem dX5_text_68 : decode cX5_text 68 = .ok (.iinc 1 1, 3) := by decide +kernel
theorem dX5_text_71 : decode cX5_text 71 = .ok (.goto (-47), 3) := by decide +kernel
theorem dX5_text_74 : decode cX5_text 74 = .ok (.aload_n 0, 1) := by decide +kernel
theorem dX5_text_75 : decode cX5_text 75 = .ok (.iconst 0, 1) := by decide +kernel
theorem dX5_text_76 : decode cX5_text 76 = .ok (.putfield 177, 3) := by decide +kernel
theorem dX5_text_79 : decode cX5_text 79 = .ok (.aload_n 0, 1) := by decide +kernel
theorem dX5_text_80 : decode cX5_text 80 = .ok (.getfield 204, 3) := by decide +kernel
theorem dX5_text_83 : decode cX5_text 83 = .ok (.ifCond .eq 14, 3) := by decide +kernel
theorem dX5_text_86 : decode cX5_text 86 = .ok (.aload_n 0, 1) := by decide +kernel
theorem dX5_text_87 : decode cX5_text 87 = .ok (.invokevirtual 149, 3) := by decide +kernel
theorem dX5_text_90 : decode cX5_text 90 = .ok (.iconst (-1), 1) := by decide +kernel
theorem dX5_text_91 : decode cX5_text 91 = .ok (.aload_n 0, 1) := by decide +kernel
theorem dX5_text_92 : decode cX5_text 92 = .ok (.getfield 192, 3) := by decide +kernel
theorem dX5_text_95 : decode cX5_text 95 = .ok (.isub, 1) := by decide +kernel
theorem dX5_text_96 : decode cX5_text 96 = .ok (.ireturn, 1) := by decide +kernel
theorem dX5_text_97 : decode cX5_text 97 = .ok (.iload_n 1, 1) := by decide +kernel
theorem dX5_text_98 : decode cX5_text 98 = .ok (.ireturn, 1) := by decide +kernel
theorem dX5_hold_0 : decode cX5_hold 0 = .ok (.iload_n 1, 1) := by decide +kernel
theorem dX5_hold_1 : decode cX5_hold 1 = .ok (.i2l, 1) := by decide +kernel
theorem dX5_hold_2 : decode cX5_hold 2 = .ok (.lconst 0, 1) := by decide +kernel
theorem dX5_hold_3 : decode cX5_hold 3 = .ok (.ldc2_w 82, 3) := by decide +kernel
theorem dX5_hold_6 : decode cX5_hold 6 = .ok (.invokestatic 43, 3) := by decide +kernel
theorem dX5_hold_9 : decode cX5_hold 9 = .ok (.ifCond .eq 16, 3) := by decide +kernel
theorem dX5_hold_12 : decode cX5_hold 12 = .ok (.iload_n 2, 1) := by decide +kernel
theorem dX5_hold_13 : decode cX5_hold 13 = .ok (.iconst (-1), 1) := by decide +kernel
theorem dX5_hold_14 : decode cX5_hold 14 = .ok (.if_icmp .eq 18, 3) := by decide +kernel
theorem dX5_hold_17 : decode cX5_hold 17 = .ok (.aload_n 0, 1) := by decide +kernel
theorem dX5_hold_18 : decode cX5_hold 18 = .ok (.iload_n 2, 1) := by decide +kernel
theorem dX5_hold_19 : decode cX5_hold 19 = .ok (.invokevirtual 114, 3) := by decide +kernel
theorem dX5_hold_22 : decode cX5_hold 22 = .ok (.ifCond .ne 10, 3) := by decide +kernel
theorem dX5_hold_25 : decode cX5_hold 25 = .ok (.aload_n 0, 1) := by decide +kernel
theorem dX5_hold_26 : decode cX5_hold 26 = .ok (.ldc 40, 2) := by decide +kernel
theorem dX5_hold_28 : decode cX5_hold 28 = .ok (.invokevirtual 59, 3) := by decide +kernel
theorem dX5_hold_31 : decode cX5_hold 31 = .ok (.ireturn, 1) := by decide +kernel
theorem dX5_hold_32 : decode cX5_hold 32 = .ok (.aload_n 0, 1) := by decide +kernel
theorem dX5_hold_33 : decode cX5_hold 33 = .ok (.getfield 7, 3) := by decide +kernel
theorem dX5_hold_36 : decode cX5_hold 36 = .ok (.sipush 235, 3) := by decide +kernel
theorem dX5_hold_39 : decode cX5_hold 39 = .ok (.iload_n 1, 1) := by decide +kernel
theorem dX5_hold_40 : decode cX5_hold 40 = .ok (.iadd, 1) := by decide +kernel
theorem dX5_hold_41 : decode cX5_hold 41 = .ok (.iload_n 2, 1) := by decide +kernel
theorem dX5_hold_42 : decode cX5_hold 42 = .ok (.iastore, 1) := by decide +kernel
theorem dX5_hold_43 : decode cX5_hold 43 = .ok (.iconst 1, 1) := by decide +kernel
theorem dX5_hold_44 : decode cX5_hold 44 = .ok (.ireturn, 1) := by decide +kernel
theorem dX5_as_0 : decode cX5_as 0 = .ok (.iload_n 1, 1) := by decide +kernel
theorem dX5_as_1 : decode cX5_as 1 = .ok (.i2l, 1) := by decide +kernel
theorem dX5_as_2 : decode cX5_as 2 = .ok (.lconst 0, 1) := by decide +kernel
theorem dX5_as_3 : decode cX5_as 3 = .ok (.ldc2_w 82, 3) := by decide +kernel
theorem dX5_as_6 : decode cX5_as 6 = .ok (.invokestatic 43, 3) := by decide +kernel
theorem dX5_as_9 : decode cX5_as 9 = .ok (.ifCond .eq 15, 3) := by decide +kernel
theorem dX5_as_12 : decode cX5_as 12 = .ok (.iload_n 2, 1) := by decide +kernel
theorem dX5_as_13 : decode cX5_as 13 = .ok (.i2l, 1) := by decide +kernel
theorem dX5_as_14 : decode cX5_as 14 = .ok (.lconst 0, 1) := by decide +kernel
theorem dX5_as_15 : decode cX5_as 15 = .ok (.ldc2_w 107, 3) := by decide +kernel
theorem dX5_as_18 : decode cX5_as 18 = .ok (.invokestatic 43, 3) := by decide +kernel
theorem dX5_as_21 : decode cX5_as 21 = .ok (.ifCond .ne 10, 3) := by decide +kernel
theorem dX5_as_24 : decode cX5_as 24 = .ok (.aload_n 0, 1) := by decide +kernel
theorem dX5_as_25 : decode cX5_as 25 = .ok (.ldc 40, 2) := by decide +kernel
theorem dX5_as_27 : decode cX5_as 27 = .ok (.invokevirtual 59, 3) := by decide +kernel
theorem dX5_as_30 : decode cX5_as 30 = .ok (.ireturn, 1) := by decide +kernel
theorem dX5_as_31 : decode cX5_as 31 = .ok (.aload_n 0, 1) := by decide +kernel
theorem dX5_as_32 : decode cX5_as 32 = .ok (.getfield 7, 3) := by decide +kernel
theorem dX5_as_35 : decode cX5_as 35 = .ok (.sipush 235, 3) := by decide +kernel
theorem dX5_as_38 : decode cX5_as 38 = .ok (.iload_n 1, 1) := by decide +kernel
theorem dX5_as_39 : decode cX5_as 39 = .ok (.iadd, 1) := by decide +kernel
theorem dX5_as_40 : decode cX5_as 40 = .ok (.iaload, 1) := by decide +kernel
theorem dX5_as_41 : decode cX5_as 41 = .ok (.istore_n 3, 1) := by decide +kernel
theorem dX5_as_42 : decode cX5_as 42 = .ok (.iload_n 3, 1) := by decide +kernel
theorem dX5_as_43 : decode cX5_as 43 = .ok (.ifCond .ge 10, 3) := by decide +kernel
theorem dX5_as_46 : decode cX5_as 46 = .ok (.aload_n 0, 1) := by decide +kernel
theorem dX5_as_47 : decode cX5_as 47 = .ok (.ldc 240, 2) := by decide +kernel
theorem dX5_as_49 : decode cX5_as 49 = .ok (.invokevirtual 59, 3) := by decide +kernel
theorem dX5_as_52 : decode cX5_as 52 = .ok (.ireturn, 1) := by decide +kernel
theorem dX5_as_53 : decode cX5_as 53 = .ok (.aload_n 0, 1) := by decide +kernel
theorem dX5_as_54 : decode cX5_as 54 = .ok (.getfield 7, 3) := by decide +kernel
theorem dX5_as_57 : decode cX5_as 57 = .ok (.sipush 223, 3) := by decide +kernel
theorem dX5_as_60 : decode cX5_as 60 = .ok (.iconst 2, 1) := by decide +kernel
theorem dX5_as_61 : decode cX5_as 61 = .ok (.iload_n 3, 1) := by decide +kernel
theorem dX5_as_62 : decode cX5_as 62 = .ok (.imul, 1) := by decide +kernel
theorem dX5_as_63 : decode cX5_as 63 = .ok (.iadd, 1) := by decide +kernel
theorem dX5_as_64 : decode cX5_as 64 = .ok (.iaload, 1) := by decide +kernel
theorem dX5_as_65 : decode cX5_as 65 = .ok (.istore 4, 2) := by decide +kernel
theorem dX5_as_67 : decode cX5_as 67 = .ok (.iload_n 2, 1) := by decide +kernel
theorem dX5_as_68 : decode cX5_as 68 = .ok (.ifCond .eq 31, 3) := by decide +kernel
theorem dX5_as_71 : decode cX5_as 71 = .ok (.iload 4, 2) := by decide +kernel
theorem dX5_as_73 : decode cX5_as 73 = .ok (.iload_n 2, 1) := by decide +kernel
theorem dX5_as_74 : decode cX5_as 74 = .ok (.if_icmp .eq 25, 3) := by decide +kernel
theorem dX5_as_77 : decode cX5_as 77 = .ok (.iload_n 2, 1) := by decide +kernel
theorem dX5_as_78 : decode cX5_as 78 = .ok (.iconst 1, 1) := by decide +kernel
theorem dX5_as_79 : decode cX5_as 79 = .ok (.if_icmp .ne 9, 3) := by decide +kernel
theorem dX5_as_82 : decode cX5_as 82 = .ok (.iload 4, 2) := by decide +kernel
theorem dX5_as_84 : decode cX5_as 84 = .ok (.iconst 5, 1) := by decide +kernel
theorem dX5_as_85 : decode cX5_as 85 = .ok (.if_icmp .eq 14, 3) := by decide +kernel
theorem dX5_as_88 : decode cX5_as 88 = .ok (.iload_n 2, 1) := by decide +kernel
theorem dX5_as_89 : decode cX5_as 89 = .ok (.iconst 2, 1) := by decide +kernel
theorem dX5_as_90 : decode cX5_as 90 = .ok (.if_icmp .ne 13, 3) := by decide +kernel
theorem dX5_as_93 : decode cX5_as 93 = .ok (.iload 4, 2) := by decide +kernel
theorem dX5_as_95 : decode cX5_as 95 = .ok (.iconst 3, 1) := by decide +kernel
theorem dX5_as_96 : decode cX5_as 96 = .ok (.if_icmp .ne 7, 3) := by decide +kernel
theorem dX5_as_99 : decode cX5_as 99 = .ok (.iconst 1, 1) := by decide +kernel
theorem dX5_as_100 : decode cX5_as 100 = .ok (.goto 4, 3) := by decide +kernel
theorem dX5_as_103 : decode cX5_as 103 = .ok (.iconst 0, 1) := by decide +kernel
theorem dX5_as_104 : decode cX5_as 104 = .ok (.istore 5, 2) := by decide +kernel
theorem dX5_as_106 : decode cX5_as 106 = .ok (.iload 5, 2) := by decide +kernel
theorem dX5_as_108 : decode cX5_as 108 = .ok (.ifCond .eq 7, 3) := by decide +kernel
theorem dX5_as_111 : decode cX5_as 111 = .ok (.iload_n 3, 1) := by decide +kernel
theorem dX5_as_112 : decode cX5_as 112 = .ok (.goto 9, 3) := by decide +kernel
theorem dX5_as_115 : decode cX5_as 115 = .ok (.aload_n 0, 1) := by decide +kernel
theorem dX5_as_116 : decode cX5_as 116 = .ok (.ldc 241, 2) := by decide +kernel
theorem dX5_as_118 : decode cX5_as 118 = .ok (.invokevirtual 59, 3) := by decide +kernel
theorem dX5_as_121 : decode cX5_as 121 = .ok (.ireturn, 1) := by decide +kernel
theorem dX5_isOne_0 : decode cX5_isOne 0 = .ok (.iload_n 0, 1) := by decide +kernel
theorem dX5_isOne_1 : decode cX5_isOne 1 = .ok (.i2l, 1) := by decide +kernel
theorem dX5_isOne_2 : decode cX5_isOne 2 = .ok (.lconst 0, 1) := by decide +kernel
theorem dX5_isOne_3 : decode cX5_isOne 3 = .ok (.ldc2_w 69, 3) := by decide +kernel
theorem dX5_isOne_6 : decode cX5_isOne 6 = .ok (.invokestatic 43, 3) := by decide +kernel
theorem dX5_isOne_9 : decode cX5_isOne 9 = .ok (.ireturn, 1) := by decide +kernel
theorem dX5_sheet_0 : decode cX5_sheet 0 = .ok (.iload_n 1, 1) := by decide +kernel
theorem dX5_sheet_1 : decode cX5_sheet 1 = .ok (.invokestatic 242, 3) := by decide +kernel
theorem dX5_sheet_4 : decode cX5_sheet 4 = .ok (.ifCond .eq 25, 3) := by decide +kernel
theorem dX5_sheet_7 : decode cX5_sheet 7 = .ok (.iload_n 2, 1) := by decide +kernel
theorem dX5_sheet_8 : decode cX5_sheet 8 = .ok (.ifCond .eq 28, 3) := by decide +kernel
theorem dX5_sheet_11 : decode cX5_sheet 11 = .ok (.iload_n 2, 1) := by decide +kernel
theorem dX5_sheet_12 : decode cX5_sheet 12 = .ok (.bipush 8, 2) := by decide +kernel
theorem dX5_sheet_14 : decode cX5_sheet 14 = .ok (.if_icmp .eq 22, 3) := by decide +kernel
theorem dX5_sheet_17 : decode cX5_sheet 17 = .ok (.iload_n 2, 1) := by decide +kernel
theorem dX5_sheet_18 : decode cX5_sheet 18 = .ok (.bipush 16, 2) := by decide +kernel
theorem dX5_sheet_20 : decode cX5_sheet 20 = .ok (.if_icmp .eq 16, 3) := by decide +kernel
theorem dX5_sheet_23 : decode cX5_sheet 23 = .ok (.iload_n 2, 1) := by decide +kernel
theorem dX5_sheet_24 : decode cX5_sheet 24 = .ok (.bipush 32, 2) := by decide +kernel
theorem dX5_sheet_26 : decode cX5_sheet 26 = .ok (.if_icmp .eq 10, 3) := by decide +kernel
theorem dX5_sheet_29 : decode cX5_sheet 29 = .ok (.aload_n 0, 1) := by decide +kernel
theorem dX5_sheet_30 : decode cX5_sheet 30 = .ok (.ldc 40, 2) := by decide +kernel
theorem dX5_sheet_32 : decode cX5_sheet 32 = .ok (.invokevirtual 59, 3) := by decide +kernel
theorem dX5_sheet_35 : decode cX5_sheet 35 = .ok (.ireturn, 1) := by decide +kernel
theorem dX5_sheet_36 : decode cX5_sheet 36 = .ok (.iload_n 3, 1) := by decide +kernel
theorem dX5_sheet_37 : decode cX5_sheet 37 = .ok (.ifCond .ge 10, 3) := by decide +kernel
theorem dX5_sheet_40 : decode cX5_sheet 40 = .ok (.aload_n 0, 1) := by decide +kernel
theorem dX5_sheet_41 : decode cX5_sheet 41 = .ok (.ldc 245, 2) := by decide +kernel
theorem dX5_sheet_43 : decode cX5_sheet 43 = .ok (.invokevirtual 59, 3) := by decide +kernel
theorem dX5_sheet_46 : decode cX5_sheet 46 = .ok (.ireturn, 1) := by decide +kernel
theorem dX5_sheet_47 : decode cX5_sheet 47 = .ok (.iload_n 3, 1) := by decide +kernel
theorem dX5_sheet_48 : decode cX5_sheet 48 = .ok (.bipush 40, 2) := by decide +kernel
theorem dX5_sheet_50 : decode cX5_sheet 50 = .ok (.if_icmp .le 10, 3) := by decide +kernel
theorem dX5_sheet_53 : decode cX5_sheet 53 = .ok (.aload_n 0, 1) := by decide +kernel
theorem dX5_sheet_54 : decode cX5_sheet 54 = .ok (.ldc 40, 2) := by decide +kernel
theorem dX5_sheet_56 : decode cX5_sheet 56 = .ok (.invokevirtual 59, 3) := by decide +kernel
theorem dX5_sheet_59 : decode cX5_sheet 59 = .ok (.ireturn, 1) := by decide +kernel
theorem dX5_sheet_60 : decode cX5_sheet 60 = .ok (.aload_n 0, 1) := by decide +kernel
theorem dX5_sheet_61 : decode cX5_sheet 61 = .ok (.getfield 28, 3) := by decide +kernel
theorem dX5_sheet_64 : decode cX5_sheet 64 = .ok (.iload_n 1, 1) := by decide +kernel
theorem dX5_sheet_65 : decode cX5_sheet 65 = .ok (.iload_n 2, 1) := by decide +kernel
theorem dX5_sheet_66 : decode cX5_sheet 66 = .ok (.iastore, 1) := by decide +kernel
theorem dX5_sheet_67 : decode cX5_sheet 67 = .ok (.aload_n 0, 1) := by decide +kernel
theorem dX5_sheet_68 : decode cX5_sheet 68 = .ok (.getfield 31, 3) := by decide +kernel
theorem dX5_sheet_71 : decode cX5_sheet 71 = .ok (.iload_n 1, 1) := by decide +kernel
theorem dX5_sheet_72 : decode cX5_sheet 72 = .ok (.iload_n 2, 1) := by decide +kernel
theorem dX5_sheet_73 : decode cX5_sheet 73 = .ok (.ifCond .ne 7, 3) := by decide +kernel
theorem dX5_sheet_76 : decode cX5_sheet 76 = .ok (.iconst 0, 1) := by decide +kernel
theorem dX5_sheet_77 : decode cX5_sheet 77 = .ok (.goto 4, 3) := by decide +kernel
theorem dX5_sheet_80 : decode cX5_sheet 80 = .ok (.iload_n 3, 1) := by decide +kernel
theorem dX5_sheet_81 : decode cX5_sheet 81 = .ok (.iastore, 1) := by decide +kernel
theorem dX5_sheet_82 : decode cX5_sheet 82 = .ok (.iconst 0, 1) := by decide +kernel
theorem dX5_sheet_83 : decode cX5_sheet 83 = .ok (.istore 4, 2) := by decide +kernel
theorem dX5_sheet_85 : decode cX5_sheet 85 = .ok (.iload 4, 2) := by decide +kernel
theorem dX5_sheet_87 : decode cX5_sheet 87 = .ok (.bipush 40, 2) := by decide +kernel
theorem dX5_sheet_89 : decode cX5_sheet 89 = .ok (.if_icmp .ge 22, 3) := by decide +kernel
theorem dX5_sheet_92 : decode cX5_sheet 92 = .ok (.aload_n 0, 1) := by decide +kernel
theorem dX5_sheet_93 : decode cX5_sheet 93 = .ok (.getfield 34, 3) := by decide +kernel
theorem dX5_sheet_96 : decode cX5_sheet 96 = .ok (.bipush 40, 2) := by decide +kernel
theorem dX5_sheet_98 : decode cX5_sheet 98 = .ok (.iload_n 1, 1) := by decide +kernel
theorem dX5_sheet_99 : decode cX5_sheet 99 = .ok (.imul, 1) := by decide +kernel
theorem dX5_sheet_100 : decode cX5_sheet 100 = .ok (.iload 4, 2) := by decide +kernel
theorem dX5_sheet_102 : decode cX5_sheet 102 = .ok (.iadd, 1) := by decide +kernel
theorem dX5_sheet_103 : decode cX5_sheet 103 = .ok (.iconst 0, 1) := by decide +kernel
theorem dX5_sheet_104 : decode cX5_sheet 104 = .ok (.iastore, 1) := by decide +kernel
theorem dX5_sheet_105 : decode cX5_sheet 105 = .ok (.iinc 4 1, 3) := by decide +kernel
theorem dX5_sheet_108 : decode cX5_sheet 108 = .ok (.goto (-23), 3) := by decide +kernel
theorem dX5_sheet_111 : decode cX5_sheet 111 = .ok (.aload_n 0, 1) := by decide +kernel
theorem dX5_sheet_112 : decode cX5_sheet 112 = .ok (.getfield 31, 3) := by decide +kernel
theorem dX5_sheet_115 : decode cX5_sheet 115 = .ok (.iload_n 1, 1) := by decide +kernel
theorem dX5_sheet_116 : decode cX5_sheet 116 = .ok (.iaload, 1) := by decide +kernel
theorem dX5_sheet_117 : decode cX5_sheet 117 = .ok (.ireturn, 1) := by decide +kernel
theorem dX5_narrowed_0 : decode cX5_narrowed 0 = .ok (.iload_n 0, 1) := by decide +kernel
theorem dX5_narrowed_1 : decode cX5_narrowed 1 = .ok (.bipush 8, 2) := by decide +kernel
theorem dX5_narrowed_3 : decode cX5_narrowed 3 = .ok (.if_icmp .ne 8, 3) := by decide +kernel
theorem dX5_narrowed_6 : decode cX5_narrowed 6 = .ok (.iload_n 1, 1) := by decide +kernel
theorem dX5_narrowed_7 : decode cX5_narrowed 7 = .ok (.i2b, 1) := by decide +kernel
theorem dX5_narrowed_8 : decode cX5_narrowed 8 = .ok (.goto 15, 3) := by decide +kernel
theorem dX5_narrowed_11 : decode cX5_narrowed 11 = .ok (.iload_n 0, 1) := by decide +kernel
theorem dX5_narrowed_12 : decode cX5_narrowed 12 = .ok (.bipush 16, 2) := by decide +kernel
theorem dX5_narrowed_14 : decode cX5_narrowed 14 = .ok (.if_icmp .ne 8, 3) := by decide +kernel
theorem dX5_narrowed_17 : decode cX5_narrowed 17 = .ok (.iload_n 1, 1) := by decide +kernel
theorem dX5_narrowed_18 : decode cX5_narrowed 18 = .ok (.i2s, 1) := by decide +kernel
theorem dX5_narrowed_19 : decode cX5_narrowed 19 = .ok (.goto 4, 3) := by decide +kernel
theorem dX5_narrowed_22 : decode cX5_narrowed 22 = .ok (.iload_n 1, 1) := by decide +kernel
theorem dX5_narrowed_23 : decode cX5_narrowed 23 = .ok (.ireturn, 1) := by decide +kernel
theorem dX5_wrong_0 : decode cX5_wrong 0 = .ok (.iload_n 1, 1) := by decide +kernel
theorem dX5_wrong_1 : decode cX5_wrong 1 = .ok (.invokestatic 242, 3) := by decide +kernel
theorem dX5_wrong_4 : decode cX5_wrong 4 = .ok (.ifCond .ne 8, 3) := by decide +kernel
theorem dX5_wrong_7 : decode cX5_wrong 7 = .ok (.ldc 40, 2) := by decide +kernel
theorem dX5_wrong_9 : decode cX5_wrong 9 = .ok (.goto 18, 3) := by decide +kernel
theorem dX5_wrong_12 : decode cX5_wrong 12 = .ok (.aload_n 0, 1) := by decide +kernel
theorem dX5_wrong_13 : decode cX5_wrong 13 = .ok (.getfield 28, 3) := by decide +kernel
theorem dX5_wrong_16 : decode cX5_wrong 16 = .ok (.iload_n 1, 1) := by decide +kernel
theorem dX5_wrong_17 : decode cX5_wrong 17 = .ok (.iaload, 1) := by decide +kernel
theorem dX5_wrong_18 : decode cX5_wrong 18 = .ok (.ifCond .ne 8, 3) := by decide +kernel
theorem dX5_wrong_21 : decode cX5_wrong 21 = .ok (.ldc 240, 2) := by decide +kernel
theorem dX5_wrong_23 : decode cX5_wrong 23 = .ok (.goto 4, 3) := by decide +kernel
theorem dX5_wrong_26 : decode cX5_wrong 26 = .ok (.iconst 0, 1) := by decide +kernel
theorem dX5_wrong_27 : decode cX5_wrong 27 = .ok (.ireturn, 1) := by decide +kernel
theorem dX5_write_0 : decode cX5_write 0 = .ok (.aload_n 0, 1) := by decide +kernel
theorem dX5_write_1 : decode cX5_write 1 = .ok (.iload_n 1, 1) := by decide +kernel
theorem dX5_write_2 : decode cX5_write 2 = .ok (.invokevirtual 246, 3) := by decide +kernel
theorem dX5_write_5 : decode cX5_write 5 = .ok (.istore 4, 2) := by decide +kernel
theorem dX5_write_7 : decode cX5_write 7 = .ok (.iload 4, 2) := by decide +kernel
theorem dX5_write_9 : decode cX5_write 9 = .ok (.ifCond .eq 10, 3) := by decide +kernel
theorem dX5_write_12 : decode cX5_write 12 = .ok (.aload_n 0, 1) := by decide +kernel
theorem dX5_write_13 : decode cX5_write 13 = .ok (.iload 4, 2) := by decide +kernel
theorem dX5_write_15 : decode cX5_write 15 = .ok (.invokevirtual 59, 3) := by decide +kernel
theorem dX5_write_18 : decode cX5_write 18 = .ok (.ireturn, 1) := by decide +kernel
theorem dX5_write_19 : decode cX5_write 19 = .ok (.iload_n 2, 1) := by decide +kernel
theorem dX5_write_20 : decode cX5_write 20 = .ok (.i2l, 1) := by decide +kernel
theorem dX5_write_21 : decode cX5_write 21 = .ok (.lconst 0, 1) := by decide +kernel
theorem dX5_write_22 : decode cX5_write 22 = .ok (.aload_n 0, 1) := by decide +kernel
theorem dX5_write_23 : decode cX5_write 23 = .ok (.getfield 31, 3) := by decide +kernel
theorem dX5_write_26 : decode cX5_write 26 = .ok (.iload_n 1, 1) := by decide +kernel
theorem dX5_write_27 : decode cX5_write 27 = .ok (.iaload, 1) := by decide +kernel
theorem dX5_write_28 : decode cX5_write 28 = .ok (.iconst 1, 1) := by decide +kernel
theorem dX5_write_29 : decode cX5_write 29 = .ok (.isub, 1) := by decide +kernel
theorem dX5_write_30 : decode cX5_write 30 = .ok (.i2l, 1) := by decide +kernel
theorem dX5_write_31 : decode cX5_write 31 = .ok (.invokestatic 43, 3) := by decide +kernel
theorem dX5_write_34 : decode cX5_write 34 = .ok (.ifCond .ne 10, 3) := by decide +kernel
theorem dX5_write_37 : decode cX5_write 37 = .ok (.aload_n 0, 1) := by decide +kernel
theorem dX5_write_38 : decode cX5_write 38 = .ok (.ldc 40, 2) := by decide +kernel
theorem dX5_write_40 : decode cX5_write 40 = .ok (.invokevirtual 59, 3) := by decide +kernel
theorem dX5_write_43 : decode cX5_write 43 = .ok (.ireturn, 1) := by decide +kernel
theorem dX5_write_44 : decode cX5_write 44 = .ok (.aload_n 0, 1) := by decide +kernel
theorem dX5_write_45 : decode cX5_write 45 = .ok (.getfield 34, 3) := by decide +kernel
theorem dX5_write_48 : decode cX5_write 48 = .ok (.bipush 40, 2) := by decide +kernel
theorem dX5_write_50 : decode cX5_write 50 = .ok (.iload_n 1, 1) := by decide +kernel
theorem dX5_write_51 : decode cX5_write 51 = .ok (.imul, 1) := by decide +kernel
theorem dX5_write_52 : decode cX5_write 52 = .ok (.iload_n 2, 1) := by decide +kernel
theorem dX5_write_53 : decode cX5_write 53 = .ok (.iadd, 1) := by decide +kernel
theorem dX5_write_54 : decode cX5_write 54 = .ok (.aload_n 0, 1) := by decide +kernel
theorem dX5_write_55 : decode cX5_write 55 = .ok (.getfield 28, 3) := by decide +kernel
theorem dX5_write_58 : decode cX5_write 58 = .ok (.iload_n 1, 1) := by decide +kernel
theorem dX5_write_59 : decode cX5_write 59 = .ok (.iaload, 1) := by decide +kernel
theorem dX5_write_60 : decode cX5_write 60 = .ok (.iload_n 3, 1) := by decide +kernel
theorem dX5_write_61 : decode cX5_write 61 = .ok (.invokestatic 249, 3) := by decide +kernel
theorem dX5_write_64 : decode cX5_write 64 = .ok (.iastore, 1) := by decide +kernel
theorem dX5_write_65 : decode cX5_write 65 = .ok (.iconst 1, 1) := by decide +kernel
theorem dX5_write_66 : decode cX5_write 66 = .ok (.ireturn, 1) := by decide +kernel
theorem dX5_copy_0 : decode cX5_copy 0 = .ok (.iload_n 1, 1) := by decide +kernel
theorem dX5_copy_1 : decode cX5_copy 1 = .ok (.invokestatic 242, 3) := by decide +kernel
theorem dX5_copy_4 : decode cX5_copy 4 = .ok (.ifCond .eq 10, 3) := by decide +kernel
theorem dX5_copy_7 : decode cX5_copy 7 = .ok (.iload_n 3, 1) := by decide +kernel
theorem dX5_copy_8 : decode cX5_copy 8 = .ok (.invokestatic 242, 3) := by decide +kernel
theorem dX5_copy_11 : decode cX5_copy 11 = .ok (.ifCond .ne 10, 3) := by decide +kernel
theorem dX5_copy_14 : decode cX5_copy 14 = .ok (.aload_n 0, 1) := by decide +kernel
theorem dX5_copy_15 : decode cX5_copy 15 = .ok (.ldc 40, 2) := by decide +kernel
theorem dX5_copy_17 : decode cX5_copy 17 = .ok (.invokevirtual 59, 3) := by decide +kernel
theorem dX5_copy_20 : decode cX5_copy 20 = .ok (.ireturn, 1) := by decide +kernel
theorem dX5_copy_21 : decode cX5_copy 21 = .ok (.aload_n 0, 1) := by decide +kernel
theorem dX5_copy_22 : decode cX5_copy 22 = .ok (.getfield 28, 3) := by decide +kernel
theorem dX5_copy_25 : decode cX5_copy 25 = .ok (.iload_n 1, 1) := by decide +kernel
theorem dX5_copy_26 : decode cX5_copy 26 = .ok (.iaload, 1) := by decide +kernel
theorem dX5_copy_27 : decode cX5_copy 27 = .ok (.ifCond .eq 12, 3) := by decide +kernel
theorem dX5_copy_30 : decode cX5_copy 30 = .ok (.aload_n 0, 1) := by decide +kernel
theorem dX5_copy_31 : decode cX5_copy 31 = .ok (.getfield 28, 3) := by decide +kernel
theorem dX5_copy_34 : decode cX5_copy 34 = .ok (.iload_n 3, 1) := by decide +kernel
theorem dX5_copy_35 : decode cX5_copy 35 = .ok (.iaload, 1) := by decide +kernel
theorem dX5_copy_36 : decode cX5_copy 36 = .ok (.ifCond .ne 10, 3) := by decide +kernel
theorem dX5_copy_39 : decode cX5_copy 39 = .ok (.aload_n 0, 1) := by decide +kernel
theorem dX5_copy_40 : decode cX5_copy 40 = .ok (.ldc 240, 2) := by decide +kernel
theorem dX5_copy_42 : decode cX5_copy 42 = .ok (.invokevirtual 59, 3) := by decide +kernel
theorem dX5_copy_45 : decode cX5_copy 45 = .ok (.ireturn, 1) := by decide +kernel
theorem dX5_copy_46 : decode cX5_copy 46 = .ok (.aload_n 0, 1) := by decide +kernel
theorem dX5_copy_47 : decode cX5_copy 47 = .ok (.getfield 28, 3) := by decide +kernel
theorem dX5_copy_50 : decode cX5_copy 50 = .ok (.iload_n 1, 1) := by decide +kernel
theorem dX5_copy_51 : decode cX5_copy 51 = .ok (.iaload, 1) := by decide +kernel
theorem dX5_copy_52 : decode cX5_copy 52 = .ok (.aload_n 0, 1) := by decide +kernel
theorem dX5_copy_53 : decode cX5_copy 53 = .ok (.getfield 28, 3) := by decide +kernel
theorem dX5_copy_56 : decode cX5_copy 56 = .ok (.iload_n 3, 1) := by decide +kernel
theorem dX5_copy_57 : decode cX5_copy 57 = .ok (.iaload, 1) := by decide +kernel
theorem dX5_copy_58 : decode cX5_copy 58 = .ok (.if_icmp .eq 10, 3) := by decide +kernel
theorem dX5_copy_61 : decode cX5_copy 61 = .ok (.aload_n 0, 1) := by decide +kernel
theorem dX5_copy_62 : decode cX5_copy 62 = .ok (.ldc 241, 2) := by decide +kernel
theorem dX5_copy_64 : decode cX5_copy 64 = .ok (.invokevirtual 59, 3) := by decide +kernel
theorem dX5_copy_67 : decode cX5_copy 67 = .ok (.ireturn, 1) := by decide +kernel
theorem dX5_copy_68 : decode cX5_copy 68 = .ok (.iload_n 2, 1) := by decide +kernel
theorem dX5_copy_69 : decode cX5_copy 69 = .ok (.ifCond .lt 40, 3) := by decide +kernel
theorem dX5_copy_72 : decode cX5_copy 72 = .ok (.iload 4, 2) := by decide +kernel
theorem dX5_copy_74 : decode cX5_copy 74 = .ok (.ifCond .lt 35, 3) := by decide +kernel
theorem dX5_copy_77 : decode cX5_copy 77 = .ok (.iload 5, 2) := by decide +kernel
theorem dX5_copy_79 : decode cX5_copy 79 = .ok (.ifCond .lt 30, 3) := by decide +kernel
theorem dX5_copy_82 : decode cX5_copy 82 = .ok (.iload 5, 2) := by decide +kernel
theorem dX5_copy_84 : decode cX5_copy 84 = .ok (.aload_n 0, 1) := by decide +kernel
theorem dX5_copy_85 : decode cX5_copy 85 = .ok (.getfield 31, 3) := by decide +kernel
theorem dX5_copy_88 : decode cX5_copy 88 = .ok (.iload_n 1, 1) := by decide +kernel
theorem dX5_copy_89 : decode cX5_copy 89 = .ok (.iaload, 1) := by decide +kernel
theorem dX5_copy_90 : decode cX5_copy 90 = .ok (.iload_n 2, 1) := by decide +kernel
theorem dX5_copy_91 : decode cX5_copy 91 = .ok (.isub, 1) := by decide +kernel
theorem dX5_copy_92 : decode cX5_copy 92 = .ok (.if_icmp .gt 17, 3) := by decide +kernel
theorem dX5_copy_95 : decode cX5_copy 95 = .ok (.iload 5, 2) := by decide +kernel
theorem dX5_copy_97 : decode cX5_copy 97 = .ok (.aload_n 0, 1) := by decide +kernel
theorem dX5_copy_98 : decode cX5_copy 98 = .ok (.getfield 31, 3) := by decide +kernel
theorem dX5_copy_101 : decode cX5_copy 101 = .ok (.iload_n 3, 1) := by decide +kernel
theorem dX5_copy_102 : decode cX5_copy 102 = .ok (.iaload, 1) := by decide +kernel
theorem dX5_copy_103 : decode cX5_copy 103 = .ok (.iload 4, 2) := by decide +kernel
theorem dX5_copy_105 : decode cX5_copy 105 = .ok (.isub, 1) := by decide +kernel
theorem dX5_copy_106 : decode cX5_copy 106 = .ok (.if_icmp .le 10, 3) := by decide +kernel
theorem dX5_copy_109 : decode cX5_copy 109 = .ok (.aload_n 0, 1) := by decide +kernel
theorem dX5_copy_110 : decode cX5_copy 110 = .ok (.ldc 40, 2) := by decide +kernel
theorem dX5_copy_112 : decode cX5_copy 112 = .ok (.invokevirtual 59, 3) := by decide +kernel
theorem dX5_copy_115 : decode cX5_copy 115 = .ok (.ireturn, 1) := by decide +kernel
theorem dX5_copy_116 : decode cX5_copy 116 = .ok (.iconst 0, 1) := by decide +kernel
theorem dX5_copy_117 : decode cX5_copy 117 = .ok (.istore 6, 2) := by decide +kernel
theorem dX5_copy_119 : decode cX5_copy 119 = .ok (.iload 6, 2) := by decide +kernel
theorem dX5_copy_121 : decode cX5_copy 121 = .ok (.iload 5, 2) := by decide +kernel
theorem dX5_copy_123 : decode cX5_copy 123 = .ok (.if_icmp .ge 30, 3) := by decide +kernel
theorem dX5_copy_126 : decode cX5_copy 126 = .ok (.aload_n 0, 1) := by decide +kernel
theorem dX5_copy_127 : decode cX5_copy 127 = .ok (.getfield 37, 3) := by decide +kernel
theorem dX5_copy_130 : decode cX5_copy 130 = .ok (.iload 6, 2) := by decide +kernel
theorem dX5_copy_132 : decode cX5_copy 132 = .ok (.aload_n 0, 1) := by decide +kernel
theorem dX5_copy_133 : decode cX5_copy 133 = .ok (.getfield 34, 3) := by decide +kernel
theorem dX5_copy_136 : decode cX5_copy 136 = .ok (.bipush 40, 2) := by decide +kernel
theorem dX5_copy_138 : decode cX5_copy 138 = .ok (.iload_n 1, 1) := by decide +kernel
theorem dX5_copy_139 : decode cX5_copy 139 = .ok (.imul, 1) := by decide +kernel
theorem dX5_copy_140 : decode cX5_copy 140 = .ok (.iload_n 2, 1) := by decide +kernel
theorem dX5_copy_141 : decode cX5_copy 141 = .ok (.iadd, 1) := by decide +kernel
theorem dX5_copy_142 : decode cX5_copy 142 = .ok (.iload 6, 2) := by decide +kernel
theorem dX5_copy_144 : decode cX5_copy 144 = .ok (.iadd, 1) := by decide +kernel
theorem dX5_copy_145 : decode cX5_copy 145 = .ok (.iaload, 1) := by decide +kernel
theorem dX5_copy_146 : decode cX5_copy 146 = .ok (.iastore, 1) := by decide +kernel
theorem dX5_copy_147 : decode cX5_copy 147 = .ok (.iinc 6 1, 3) := by decide +kernel
theorem dX5_copy_150 : decode cX5_copy 150 = .ok (.goto (-31), 3) := by decide +kernel
theorem dX5_copy_153 : decode cX5_copy 153 = .ok (.iconst 0, 1) := by decide +kernel
theorem dX5_copy_154 : decode cX5_copy 154 = .ok (.istore 6, 2) := by decide +kernel
theorem dX5_copy_156 : decode cX5_copy 156 = .ok (.iload 6, 2) := by decide +kernel
theorem dX5_copy_158 : decode cX5_copy 158 = .ok (.iload 5, 2) := by decide +kernel
theorem dX5_copy_160 : decode cX5_copy 160 = .ok (.if_icmp .ge 31, 3) := by decide +kernel
theorem dX5_copy_163 : decode cX5_copy 163 = .ok (.aload_n 0, 1) := by decide +kernel
theorem dX5_copy_164 : decode cX5_copy 164 = .ok (.getfield 34, 3) := by decide +kernel
theorem dX5_copy_167 : decode cX5_copy 167 = .ok (.bipush 40, 2) := by decide +kernel
theorem dX5_copy_169 : decode cX5_copy 169 = .ok (.iload_n 3, 1) := by decide +kernel
theorem dX5_copy_170 : decode cX5_copy 170 = .ok (.imul, 1) := by decide +kernel
theorem dX5_copy_171 : decode cX5_copy 171 = .ok (.iload 4, 2) := by decide +kernel
theorem dX5_copy_173 : decode cX5_copy 173 = .ok (.iadd, 1) := by decide +kernel
theorem dX5_copy_174 : decode cX5_copy 174 = .ok (.iload 6, 2) := by decide +kernel
theorem dX5_copy_176 : decode cX5_copy 176 = .ok (.iadd, 1) := by decide +kernel
theorem dX5_copy_177 : decode cX5_copy 177 = .ok (.aload_n 0, 1) := by decide +kernel
theorem dX5_copy_178 : decode cX5_copy 178 = .ok (.getfield 37, 3) := by decide +kernel
theorem dX5_copy_181 : decode cX5_copy 181 = .ok (.iload 6, 2) := by decide +kernel
theorem dX5_copy_183 : decode cX5_copy 183 = .ok (.iaload, 1) := by decide +kernel
theorem dX5_copy_184 : decode cX5_copy 184 = .ok (.iastore, 1) := by decide +kernel
theorem dX5_copy_185 : decode cX5_copy 185 = .ok (.iinc 6 1, 3) := by decide +kernel
theorem dX5_copy_188 : decode cX5_copy 188 = .ok (.goto (-32), 3) := by decide +kernel
theorem dX5_copy_191 : decode cX5_copy 191 = .ok (.iload 5, 2) := by decide +kernel
theorem dX5_copy_193 : decode cX5_copy 193 = .ok (.ireturn, 1) := by decide +kernel
theorem dX5_load_0 : decode cX5_load 0 = .ok (.aload_n 0, 1) := by decide +kernel
theorem dX5_load_1 : decode cX5_load 1 = .ok (.iload_n 1, 1) := by decide +kernel
theorem dX5_load_2 : decode cX5_load 2 = .ok (.invokevirtual 246, 3) := by decide +kernel
theorem dX5_load_5 : decode cX5_load 5 = .ok (.istore 4, 2) := by decide +kernel
theorem dX5_load_7 : decode cX5_load 7 = .ok (.iload 4, 2) := by decide +kernel
theorem dX5_load_9 : decode cX5_load 9 = .ok (.ifCond .eq 10, 3) := by decide +kernel
theorem dX5_load_12 : decode cX5_load 12 = .ok (.aload_n 0, 1) := by decide +kernel
theorem dX5_load_13 : decode cX5_load 13 = .ok (.iload 4, 2) := by decide +kernel
theorem dX5_load_15 : decode cX5_load 15 = .ok (.invokevirtual 59, 3) := by decide +kernel
theorem dX5_load_18 : decode cX5_load 18 = .ok (.ireturn, 1) := by decide +kernel
theorem dX5_load_19 : decode cX5_load 19 = .ok (.aload_n 0, 1) := by decide +kernel
theorem dX5_load_20 : decode cX5_load 20 = .ok (.iload_n 2, 1) := by decide +kernel
theorem dX5_load_21 : decode cX5_load 21 = .ok (.invokevirtual 75, 3) := by decide +kernel
theorem dX5_load_24 : decode cX5_load 24 = .ok (.ifCond .eq 13, 3) := by decide +kernel
theorem dX5_load_27 : decode cX5_load 27 = .ok (.iload_n 3, 1) := by decide +kernel
theorem dX5_load_28 : decode cX5_load 28 = .ok (.i2l, 1) := by decide +kernel
theorem dX5_load_29 : decode cX5_load 29 = .ok (.lconst 0, 1) := by decide +kernel
theorem dX5_load_30 : decode cX5_load 30 = .ok (.lconst 1, 1) := by decide +kernel
theorem dX5_load_31 : decode cX5_load 31 = .ok (.invokestatic 43, 3) := by decide +kernel
theorem dX5_load_34 : decode cX5_load 34 = .ok (.ifCond .ne 10, 3) := by decide +kernel
theorem dX5_load_37 : decode cX5_load 37 = .ok (.aload_n 0, 1) := by decide +kernel
theorem dX5_load_38 : decode cX5_load 38 = .ok (.ldc 40, 2) := by decide +kernel
theorem dX5_load_40 : decode cX5_load 40 = .ok (.invokevirtual 59, 3) := by decide +kernel
theorem dX5_load_43 : decode cX5_load 43 = .ok (.ireturn, 1) := by decide +kernel
theorem dX5_load_44 : decode cX5_load 44 = .ok (.iconst 0, 1) := by decide +kernel
theorem dX5_load_45 : decode cX5_load 45 = .ok (.istore 5, 2) := by decide +kernel
theorem dX5_load_47 : decode cX5_load 47 = .ok (.iconst 0, 1) := by decide +kernel
theorem dX5_load_48 : decode cX5_load 48 = .ok (.istore 6, 2) := by decide +kernel
theorem dX5_load_50 : decode cX5_load 50 = .ok (.iload 6, 2) := by decide +kernel
theorem dX5_load_52 : decode cX5_load 52 = .ok (.aload_n 0, 1) := by decide +kernel
theorem dX5_load_53 : decode cX5_load 53 = .ok (.getfield 31, 3) := by decide +kernel
theorem dX5_load_56 : decode cX5_load 56 = .ok (.iload_n 1, 1) := by decide +kernel
theorem dX5_load_57 : decode cX5_load 57 = .ok (.iaload, 1) := by decide +kernel
theorem dX5_load_58 : decode cX5_load 58 = .ok (.if_icmp .ge 70, 3) := by decide +kernel
theorem dX5_load_61 : decode cX5_load 61 = .ok (.iload 6, 2) := by decide +kernel
theorem dX5_load_63 : decode cX5_load 63 = .ok (.bipush 8, 2) := by decide +kernel
theorem dX5_load_65 : decode cX5_load 65 = .ok (.if_icmp .ge 63, 3) := by decide +kernel
theorem dX5_load_68 : decode cX5_load 68 = .ok (.aload_n 0, 1) := by decide +kernel
theorem dX5_load_69 : decode cX5_load 69 = .ok (.getfield 34, 3) := by decide +kernel
theorem dX5_load_72 : decode cX5_load 72 = .ok (.bipush 40, 2) := by decide +kernel
theorem dX5_load_74 : decode cX5_load 74 = .ok (.iload_n 1, 1) := by decide +kernel
theorem dX5_load_75 : decode cX5_load 75 = .ok (.imul, 1) := by decide +kernel
theorem dX5_load_76 : decode cX5_load 76 = .ok (.iload 6, 2) := by decide +kernel
theorem dX5_load_78 : decode cX5_load 78 = .ok (.iadd, 1) := by decide +kernel
theorem dX5_load_79 : decode cX5_load 79 = .ok (.iaload, 1) := by decide +kernel
theorem dX5_load_80 : decode cX5_load 80 = .ok (.istore 7, 2) := by decide +kernel
theorem dX5_load_82 : decode cX5_load 82 = .ok (.iload 7, 2) := by decide +kernel
theorem dX5_load_84 : decode cX5_load 84 = .ok (.i2l, 1) := by decide +kernel
theorem dX5_load_85 : decode cX5_load 85 = .ok (.lconst 0, 1) := by decide +kernel
theorem dX5_load_86 : decode cX5_load 86 = .ok (.aload_n 0, 1) := by decide +kernel
theorem dX5_load_87 : decode cX5_load 87 = .ok (.getfield 7, 3) := by decide +kernel
theorem dX5_load_90 : decode cX5_load 90 = .ok (.iconst 0, 1) := by decide +kernel
theorem dX5_load_91 : decode cX5_load 91 = .ok (.iload 6, 2) := by decide +kernel
theorem dX5_load_93 : decode cX5_load 93 = .ok (.iadd, 1) := by decide +kernel
theorem dX5_load_94 : decode cX5_load 94 = .ok (.iaload, 1) := by decide +kernel
theorem dX5_load_95 : decode cX5_load 95 = .ok (.i2l, 1) := by decide +kernel
theorem dX5_load_96 : decode cX5_load 96 = .ok (.invokestatic 43, 3) := by decide +kernel
theorem dX5_load_99 : decode cX5_load 99 = .ok (.ifCond .ne 6, 3) := by decide +kernel
theorem dX5_load_102 : decode cX5_load 102 = .ok (.iload 5, 2) := by decide +kernel
theorem dX5_load_104 : decode cX5_load 104 = .ok (.ireturn, 1) := by decide +kernel
theorem dX5_load_105 : decode cX5_load 105 = .ok (.aload_n 0, 1) := by decide +kernel
theorem dX5_load_106 : decode cX5_load 106 = .ok (.getfield 7, 3) := by decide +kernel
theorem dX5_load_109 : decode cX5_load 109 = .ok (.iload_n 2, 1) := by decide +kernel
theorem dX5_load_110 : decode cX5_load 110 = .ok (.iload_n 3, 1) := by decide +kernel
theorem dX5_load_111 : decode cX5_load 111 = .ok (.iload 6, 2) := by decide +kernel
theorem dX5_load_113 : decode cX5_load 113 = .ok (.invokestatic 49, 3) := by decide +kernel
theorem dX5_load_116 : decode cX5_load 116 = .ok (.iload 7, 2) := by decide +kernel
theorem dX5_load_118 : decode cX5_load 118 = .ok (.iastore, 1) := by decide +kernel
theorem dX5_load_119 : decode cX5_load 119 = .ok (.iinc 5 1, 3) := by decide +kernel
theorem dX5_load_122 : decode cX5_load 122 = .ok (.iinc 6 1, 3) := by decide +kernel
theorem dX5_load_125 : decode cX5_load 125 = .ok (.goto (-75), 3) := by decide +kernel
theorem dX5_load_128 : decode cX5_load 128 = .ok (.iload 5, 2) := by decide +kernel
theorem dX5_load_130 : decode cX5_load 130 = .ok (.ireturn, 1) := by decide +kernel
theorem dX5_judge_0 : decode cX5_judge 0 = .ok (.aload_n 0, 1) := by decide +kernel
theorem dX5_judge_1 : decode cX5_judge 1 = .ok (.iload_n 1, 1) := by decide +kernel
theorem dX5_judge_2 : decode cX5_judge 2 = .ok (.invokevirtual 246, 3) := by decide +kernel
theorem dX5_judge_5 : decode cX5_judge 5 = .ok (.istore_n 3, 1) := by decide +kernel
theorem dX5_judge_6 : decode cX5_judge 6 = .ok (.iload_n 3, 1) := by decide +kernel
theorem dX5_judge_7 : decode cX5_judge 7 = .ok (.ifCond .eq 9, 3) := by decide +kernel
theorem dX5_judge_10 : decode cX5_judge 10 = .ok (.aload_n 0, 1) := by decide +kernel
theorem dX5_judge_11 : decode cX5_judge 11 = .ok (.iload_n 3, 1) := by decide +kernel
theorem dX5_judge_12 : decode cX5_judge 12 = .ok (.invokevirtual 59, 3) := by decide +kernel
theorem dX5_judge_15 : decode cX5_judge 15 = .ok (.ireturn, 1) := by decide +kernel
theorem dX5_judge_16 : decode cX5_judge 16 = .ok (.aload_n 0, 1) := by decide +kernel
theorem dX5_judge_17 : decode cX5_judge 17 = .ok (.iload_n 2, 1) := by decide +kernel
theorem dX5_judge_18 : decode cX5_judge 18 = .ok (.invokevirtual 114, 3) := by decide +kernel
theorem dX5_judge_21 : decode cX5_judge 21 = .ok (.ifCond .ne 10, 3) := by decide +kernel
theorem dX5_judge_24 : decode cX5_judge 24 = .ok (.aload_n 0, 1) := by decide +kernel
theorem dX5_judge_25 : decode cX5_judge 25 = .ok (.ldc 40, 2) := by decide +kernel
theorem dX5_judge_27 : decode cX5_judge 27 = .ok (.invokevirtual 59, 3) := by decide +kernel
theorem dX5_judge_30 : decode cX5_judge 30 = .ok (.ireturn, 1) := by decide +kernel
theorem dX5_judge_31 : decode cX5_judge 31 = .ok (.aload_n 0, 1) := by decide +kernel
theorem dX5_judge_32 : decode cX5_judge 32 = .ok (.iload_n 2, 1) := by decide +kernel
theorem dX5_judge_33 : decode cX5_judge 33 = .ok (.invokevirtual 135, 3) := by decide +kernel
theorem dX5_judge_36 : decode cX5_judge 36 = .ok (.iconst 0, 1) := by decide +kernel
theorem dX5_judge_37 : decode cX5_judge 37 = .ok (.istore 4, 2) := by decide +kernel
theorem dX5_judge_39 : decode cX5_judge 39 = .ok (.iload 4, 2) := by decide +kernel
theorem dX5_judge_41 : decode cX5_judge 41 = .ok (.aload_n 0, 1) := by decide +kernel
theorem dX5_judge_42 : decode cX5_judge 42 = .ok (.getfield 31, 3) := by decide +kernel
theorem dX5_judge_45 : decode cX5_judge 45 = .ok (.iload_n 1, 1) := by decide +kernel
theorem dX5_judge_46 : decode cX5_judge 46 = .ok (.iaload, 1) := by decide +kernel
theorem dX5_judge_47 : decode cX5_judge 47 = .ok (.if_icmp .ge 43, 3) := by decide +kernel
theorem dX5_judge_50 : decode cX5_judge 50 = .ok (.iload 4, 2) := by decide +kernel
theorem dX5_judge_52 : decode cX5_judge 52 = .ok (.aload_n 0, 1) := by decide +kernel
theorem dX5_judge_53 : decode cX5_judge 53 = .ok (.getfield 7, 3) := by decide +kernel
theorem dX5_judge_56 : decode cX5_judge 56 = .ok (.bipush 17, 2) := by decide +kernel
theorem dX5_judge_58 : decode cX5_judge 58 = .ok (.iaload, 1) := by decide +kernel
theorem dX5_judge_59 : decode cX5_judge 59 = .ok (.if_icmp .ge 31, 3) := by decide +kernel
theorem dX5_judge_62 : decode cX5_judge 62 = .ok (.aload_n 0, 1) := by decide +kernel
theorem dX5_judge_63 : decode cX5_judge 63 = .ok (.getfield 34, 3) := by decide +kernel
theorem dX5_judge_66 : decode cX5_judge 66 = .ok (.bipush 40, 2) := by decide +kernel
theorem dX5_judge_68 : decode cX5_judge 68 = .ok (.iload_n 1, 1) := by decide +kernel
theorem dX5_judge_69 : decode cX5_judge 69 = .ok (.imul, 1) := by decide +kernel
theorem dX5_judge_70 : decode cX5_judge 70 = .ok (.iload 4, 2) := by decide +kernel
theorem dX5_judge_72 : decode cX5_judge 72 = .ok (.iadd, 1) := by decide +kernel
theorem dX5_judge_73 : decode cX5_judge 73 = .ok (.iaload, 1) := by decide +kernel
theorem dX5_judge_74 : decode cX5_judge 74 = .ok (.aload_n 0, 1) := by decide +kernel
theorem dX5_judge_75 : decode cX5_judge 75 = .ok (.getfield 22, 3) := by decide +kernel
theorem dX5_judge_78 : decode cX5_judge 78 = .ok (.iload 4, 2) := by decide +kernel
theorem dX5_judge_80 : decode cX5_judge 80 = .ok (.iaload, 1) := by decide +kernel
theorem dX5_judge_81 : decode cX5_judge 81 = .ok (.if_icmp .ne 9, 3) := by decide +kernel
theorem dX5_judge_84 : decode cX5_judge 84 = .ok (.iinc 4 1, 3) := by decide +kernel
theorem dX5_judge_87 : decode cX5_judge 87 = .ok (.goto (-48), 3) := by decide +kernel
theorem dX5_judge_90 : decode cX5_judge 90 = .ok (.iload 4, 2) := by decide +kernel
theorem dX5_judge_92 : decode cX5_judge 92 = .ok (.aload_n 0, 1) := by decide +kernel
theorem dX5_judge_93 : decode cX5_judge 93 = .ok (.getfield 31, 3) := by decide +kernel
theorem dX5_judge_96 : decode cX5_judge 96 = .ok (.iload_n 1, 1) := by decide +kernel
theorem dX5_judge_97 : decode cX5_judge 97 = .ok (.iaload, 1) := by decide +kernel
theorem dX5_judge_98 : decode cX5_judge 98 = .ok (.if_icmp .ne 19, 3) := by decide +kernel
theorem dX5_judge_101 : decode cX5_judge 101 = .ok (.iload 4, 2) := by decide +kernel
theorem dX5_judge_103 : decode cX5_judge 103 = .ok (.aload_n 0, 1) := by decide +kernel
theorem dX5_judge_104 : decode cX5_judge 104 = .ok (.getfield 7, 3) := by decide +kernel
theorem dX5_judge_107 : decode cX5_judge 107 = .ok (.bipush 17, 2) := by decide +kernel
theorem dX5_judge_109 : decode cX5_judge 109 = .ok (.iaload, 1) := by decide +kernel
theorem dX5_judge_110 : decode cX5_judge 110 = .ok (.if_icmp .ne 7, 3) := by decide +kernel
theorem dX5_judge_113 : decode cX5_judge 113 = .ok (.iconst 0, 1) := by decide +kernel
theorem dX5_judge_114 : decode cX5_judge 114 = .ok (.goto 7, 3) := by decide +kernel
theorem dX5_judge_117 : decode cX5_judge 117 = .ok (.iconst 1, 1) := by decide +kernel
theorem dX5_judge_118 : decode cX5_judge 118 = .ok (.iload 4, 2) := by decide +kernel
theorem dX5_judge_120 : decode cX5_judge 120 = .ok (.iadd, 1) := by decide +kernel
theorem dX5_judge_121 : decode cX5_judge 121 = .ok (.ireturn, 1) := by decide +kernel
theorem dX5_image_0 : decode cX5_image 0 = .ok (.iconst 0, 1) := by decide +kernel
theorem dX5_image_1 : decode cX5_image 1 = .ok (.istore_n 1, 1) := by decide +kernel
theorem dX5_image_2 : decode cX5_image 2 = .ok (.iload_n 1, 1) := by decide +kernel
theorem dX5_image_3 : decode cX5_image 3 = .ok (.sipush 245, 3) := by decide +kernel
theorem dX5_image_6 : decode cX5_image 6 = .ok (.if_icmp .ge 21, 3) := by decide +kernel
theorem dX5_image_9 : decode cX5_image 9 = .ok (.aload_n 0, 1) := by decide +kernel
theorem dX5_image_10 : decode cX5_image 10 = .ok (.getfield 13, 3) := by decide +kernel
theorem dX5_image_13 : decode cX5_image 13 = .ok (.iload_n 1, 1) := by decide +kernel
theorem dX5_image_14 : decode cX5_image 14 = .ok (.aload_n 0, 1) := by decide +kernel
theorem dX5_image_15 : decode cX5_image 15 = .ok (.getfield 7, 3) := by decide +kernel
theorem dX5_image_18 : decode cX5_image 18 = .ok (.iload_n 1, 1) := by decide +kernel
theorem dX5_image_19 : decode cX5_image 19 = .ok (.iaload, 1) := by decide +kernel
theorem dX5_image_20 : decode cX5_image 20 = .ok (.iastore, 1) := by decide +kernel
theorem dX5_image_21 : decode cX5_image 21 = .ok (.iinc 1 1, 3) := by decide +kernel
theorem dX5_image_24 : decode cX5_image 24 = .ok (.goto (-22), 3) := by decide +kernel
theorem dX5_image_27 : decode cX5_image 27 = .ok (.aload_n 0, 1) := by decide +kernel
theorem dX5_image_28 : decode cX5_image 28 = .ok (.iconst 1, 1) := by decide +kernel
theorem dX5_image_29 : decode cX5_image 29 = .ok (.putfield 252, 3) := by decide +kernel
theorem dX5_image_32 : decode cX5_image 32 = .ok (.iconst 1, 1) := by decide +kernel
theorem dX5_image_33 : decode cX5_image 33 = .ok (.ireturn, 1) := by decide +kernel
theorem dX5_undo_0 : decode cX5_undo 0 = .ok (.aload_n 0, 1) := by decide +kernel
theorem dX5_undo_1 : decode cX5_undo 1 = .ok (.getfield 252, 3) := by decide +kernel
theorem dX5_undo_4 : decode cX5_undo 4 = .ok (.ifCond .ne 10, 3) := by decide +kernel
theorem dX5_undo_7 : decode cX5_undo 7 = .ok (.aload_n 0, 1) := by decide +kernel
theorem dX5_undo_8 : decode cX5_undo 8 = .ok (.ldc 89, 2) := by decide +kernel
theorem dX5_undo_10 : decode cX5_undo 10 = .ok (.invokevirtual 59, 3) := by decide +kernel
theorem dX5_undo_13 : decode cX5_undo 13 = .ok (.ireturn, 1) := by decide +kernel
theorem dX5_undo_14 : decode cX5_undo 14 = .ok (.iconst 0, 1) := by decide +kernel
theorem dX5_undo_15 : decode cX5_undo 15 = .ok (.istore_n 1, 1) := by decide +kernel
theorem dX5_undo_16 : decode cX5_undo 16 = .ok (.iload_n 1, 1) := by decide +kernel
theorem dX5_undo_17 : decode cX5_undo 17 = .ok (.sipush 245, 3) := by decide +kernel
theorem dX5_undo_20 : decode cX5_undo 20 = .ok (.if_icmp .ge 21, 3) := by decide +kernel
theorem dX5_undo_23 : decode cX5_undo 23 = .ok (.aload_n 0, 1) := by decide +kernel
theorem dX5_undo_24 : decode cX5_undo 24 = .ok (.getfield 7, 3) := by decide +kernel
theorem dX5_undo_27 : decode cX5_undo 27 = .ok (.iload_n 1, 1) := by decide +kernel
theorem dX5_undo_28 : decode cX5_undo 28 = .ok (.aload_n 0, 1) := by decide +kernel
theorem dX5_undo_29 : decode cX5_undo 29 = .ok (.getfield 13, 3) := by decide +kernel
theorem dX5_undo_32 : decode cX5_undo 32 = .ok (.iload_n 1, 1) := by decide +kernel
theorem dX5_undo_33 : decode cX5_undo 33 = .ok (.iaload, 1) := by decide +kernel
theorem dX5_undo_34 : decode cX5_undo 34 = .ok (.iastore, 1) := by decide +kernel
theorem dX5_undo_35 : decode cX5_undo 35 = .ok (.iinc 1 1, 3) := by decide +kernel
theorem dX5_undo_38 : decode cX5_undo 38 = .ok (.goto (-22), 3) := by decide +kernel
theorem dX5_undo_41 : decode cX5_undo 41 = .ok (.aload_n 0, 1) := by decide +kernel
theorem dX5_undo_42 : decode cX5_undo 42 = .ok (.getfield 7, 3) := by decide +kernel
theorem dX5_undo_45 : decode cX5_undo 45 = .ok (.bipush 17, 2) := by decide +kernel
theorem dX5_undo_47 : decode cX5_undo 47 = .ok (.iaload, 1) := by decide +kernel
theorem dX5_undo_48 : decode cX5_undo 48 = .ok (.ireturn, 1) := by decide +kernel
theorem dX5_tear_0 : decode cX5_tear 0 = .ok (.aload_n 0, 1) := by decide +kernel
theorem dX5_tear_1 : decode cX5_tear 1 = .ok (.getfield 252, 3) := by decide +kernel
theorem dX5_tear_4 : decode cX5_tear 4 = .ok (.ifCond .eq 7, 3) := by decide +kernel
theorem dX5_tear_7 : decode cX5_tear 7 = .ok (.iconst 1, 1) := by decide +kernel
theorem dX5_tear_8 : decode cX5_tear 8 = .ok (.goto 4, 3) := by decide +kernel
theorem dX5_tear_11 : decode cX5_tear 11 = .ok (.iconst 0, 1) := by decide +kernel
theorem dX5_tear_12 : decode cX5_tear 12 = .ok (.istore_n 1, 1) := by decide +kernel
theorem dX5_tear_13 : decode cX5_tear 13 = .ok (.aload_n 0, 1) := by decide +kernel
theorem dX5_tear_14 : decode cX5_tear 14 = .ok (.iconst 0, 1) := by decide +kernel
theorem dX5_tear_15 : decode cX5_tear 15 = .ok (.putfield 252, 3) := by decide +kernel
theorem dX5_tear_18 : decode cX5_tear 18 = .ok (.iload_n 1, 1) := by decide +kernel
theorem dX5_tear_19 : decode cX5_tear 19 = .ok (.ireturn, 1) := by decide +kernel
theorem dX5_count_0 : decode cX5_count 0 = .ok (.iconst 0, 1) := by decide +kernel
theorem dX5_count_1 : decode cX5_count 1 = .ok (.istore_n 2, 1) := by decide +kernel
theorem dX5_count_2 : decode cX5_count 2 = .ok (.iload_n 1, 1) := by decide +kernel
theorem dX5_count_3 : decode cX5_count 3 = .ok (.tableswitch 111 0 5 #[37, 45, 53, 61, 66, 74], 37) := by decide +kernel
theorem dX5_count_40 : decode cX5_count 40 = .ok (.aload_n 0, 1) := by decide +kernel
theorem dX5_count_41 : decode cX5_count 41 = .ok (.getfield 7, 3) := by decide +kernel
theorem dX5_count_44 : decode cX5_count 44 = .ok (.bipush 17, 2) := by decide +kernel
theorem dX5_count_46 : decode cX5_count 46 = .ok (.iaload, 1) := by decide +kernel
theorem dX5_count_47 : decode cX5_count 47 = .ok (.ireturn, 1) := by decide +kernel
theorem dX5_count_48 : decode cX5_count 48 = .ok (.aload_n 0, 1) := by decide +kernel
theorem dX5_count_49 : decode cX5_count 49 = .ok (.getfield 7, 3) := by decide +kernel
theorem dX5_count_52 : decode cX5_count 52 = .ok (.bipush 18, 2) := by decide +kernel
theorem dX5_count_54 : decode cX5_count 54 = .ok (.iaload, 1) := by decide +kernel
theorem dX5_count_55 : decode cX5_count 55 = .ok (.ireturn, 1) := by decide +kernel
theorem dX5_count_56 : decode cX5_count 56 = .ok (.aload_n 0, 1) := by decide +kernel
theorem dX5_count_57 : decode cX5_count 57 = .ok (.invokevirtual 103, 3) := by decide +kernel
theorem dX5_count_60 : decode cX5_count 60 = .ok (.invokestatic 160, 3) := by decide +kernel
theorem dX5_count_63 : decode cX5_count 63 = .ok (.ireturn, 1) := by decide +kernel
theorem dX5_count_64 : decode cX5_count 64 = .ok (.aload_n 0, 1) := by decide +kernel
theorem dX5_count_65 : decode cX5_count 65 = .ok (.getfield 177, 3) := by decide +kernel
theorem dX5_count_68 : decode cX5_count 68 = .ok (.ireturn, 1) := by decide +kernel
theorem dX5_count_69 : decode cX5_count 69 = .ok (.aload_n 0, 1) := by decide +kernel
theorem dX5_count_70 : decode cX5_count 70 = .ok (.getfield 7, 3) := by decide +kernel
theorem dX5_count_73 : decode cX5_count 73 = .ok (.bipush 16, 2) := by decide +kernel
theorem dX5_count_75 : decode cX5_count 75 = .ok (.iaload, 1) := by decide +kernel
theorem dX5_count_76 : decode cX5_count 76 = .ok (.ireturn, 1) := by decide +kernel
theorem dX5_count_77 : decode cX5_count 77 = .ok (.iconst 0, 1) := by decide +kernel
theorem dX5_count_78 : decode cX5_count 78 = .ok (.istore_n 3, 1) := by decide +kernel
theorem dX5_count_79 : decode cX5_count 79 = .ok (.iload_n 3, 1) := by decide +kernel
theorem dX5_count_80 : decode cX5_count 80 = .ok (.bipush 10, 2) := by decide +kernel
theorem dX5_count_82 : decode cX5_count 82 = .ok (.if_icmp .ge 30, 3) := by decide +kernel
theorem dX5_count_85 : decode cX5_count 85 = .ok (.iload_n 2, 1) := by decide +kernel
theorem dX5_count_86 : decode cX5_count 86 = .ok (.aload_n 0, 1) := by decide +kernel
theorem dX5_count_87 : decode cX5_count 87 = .ok (.getfield 7, 3) := by decide +kernel
theorem dX5_count_90 : decode cX5_count 90 = .ok (.sipush 235, 3) := by decide +kernel
theorem dX5_count_93 : decode cX5_count 93 = .ok (.iload_n 3, 1) := by decide +kernel
theorem dX5_count_94 : decode cX5_count 94 = .ok (.iadd, 1) := by decide +kernel
theorem dX5_count_95 : decode cX5_count 95 = .ok (.iaload, 1) := by decide +kernel
theorem dX5_count_96 : decode cX5_count 96 = .ok (.ifCond .ge 7, 3) := by decide +kernel
theorem dX5_count_99 : decode cX5_count 99 = .ok (.iconst 0, 1) := by decide +kernel
theorem dX5_count_100 : decode cX5_count 100 = .ok (.goto 4, 3) := by decide +kernel
theorem dX5_count_103 : decode cX5_count 103 = .ok (.iconst 1, 1) := by decide +kernel
theorem dX5_count_104 : decode cX5_count 104 = .ok (.iadd, 1) := by decide +kernel
theorem dX5_count_105 : decode cX5_count 105 = .ok (.istore_n 2, 1) := by decide +kernel
theorem dX5_count_106 : decode cX5_count 106 = .ok (.iinc 3 1, 3) := by decide +kernel
theorem dX5_count_109 : decode cX5_count 109 = .ok (.goto (-30), 3) := by decide +kernel
theorem dX5_count_112 : decode cX5_count 112 = .ok (.iload_n 2, 1) := by decide +kernel
theorem dX5_count_113 : decode cX5_count 113 = .ok (.ireturn, 1) := by decide +kernel
theorem dX5_count_114 : decode cX5_count 114 = .ok (.aload_n 0, 1) := by decide +kernel
theorem dX5_count_115 : decode cX5_count 115 = .ok (.ldc 40, 2) := by decide +kernel
theorem dX5_count_117 : decode cX5_count 117 = .ok (.invokevirtual 59, 3) := by decide +kernel
theorem dX5_count_120 : decode cX5_count 120 = .ok (.ireturn, 1) := by decide +kernel
theorem dX5_status_0 : decode cX5_status 0 = .ok (.iload_n 1, 1) := by decide +kernel
theorem dX5_status_1 : decode cX5_status 1 = .ok (.i2l, 1) := by decide +kernel
theorem dX5_status_2 : decode cX5_status 2 = .ok (.ldc2_w 67, 3) := by decide +kernel
theorem dX5_status_5 : decode cX5_status 5 = .ok (.ldc2_w 107, 3) := by decide +kernel
theorem dX5_status_8 : decode cX5_status 8 = .ok (.invokestatic 43, 3) := by decide +kernel
theorem dX5_status_11 : decode cX5_status 11 = .ok (.ifCond .ne 10, 3) := by decide +kernel
theorem dX5_status_14 : decode cX5_status 14 = .ok (.aload_n 0, 1) := by decide +kernel
theorem dX5_status_15 : decode cX5_status 15 = .ok (.ldc 40, 2) := by decide +kernel
theorem dX5_status_17 : decode cX5_status 17 = .ok (.invokevirtual 59, 3) := by decide +kernel
theorem dX5_status_20 : decode cX5_status 20 = .ok (.ireturn, 1) := by decide +kernel
theorem dX5_status_21 : decode cX5_status 21 = .ok (.iconst 0, 1) := by decide +kernel
theorem dX5_status_22 : decode cX5_status 22 = .ok (.istore_n 2, 1) := by decide +kernel
theorem dX5_status_23 : decode cX5_status 23 = .ok (.iconst 0, 1) := by decide +kernel
theorem dX5_status_24 : decode cX5_status 24 = .ok (.istore_n 3, 1) := by decide +kernel
theorem dX5_status_25 : decode cX5_status 25 = .ok (.iload_n 3, 1) := by decide +kernel
theorem dX5_status_26 : decode cX5_status 26 = .ok (.bipush 7, 2) := by decide +kernel
theorem dX5_status_28 : decode cX5_status 28 = .ok (.if_icmp .ge 31, 3) := by decide +kernel
theorem dX5_status_31 : decode cX5_status 31 = .ok (.iload_n 2, 1) := by decide +kernel
theorem dX5_status_32 : decode cX5_status 32 = .ok (.iload_n 1, 1) := by decide +kernel
theorem dX5_status_33 : decode cX5_status 33 = .ok (.ifCond .lt 8, 3) := by decide +kernel
theorem dX5_status_36 : decode cX5_status 36 = .ok (.iload_n 3, 1) := by decide +kernel
theorem dX5_status_37 : decode cX5_status 37 = .ok (.iload_n 1, 1) := by decide +kernel
theorem dX5_status_38 : decode cX5_status 38 = .ok (.if_icmp .ne 12, 3) := by decide +kernel
theorem dX5_status_41 : decode cX5_status 41 = .ok (.aload_n 0, 1) := by decide +kernel
theorem dX5_status_42 : decode cX5_status 42 = .ok (.getfield 19, 3) := by decide +kernel
theorem dX5_status_45 : decode cX5_status 45 = .ok (.iload_n 3, 1) := by decide +kernel
theorem dX5_status_46 : decode cX5_status 46 = .ok (.iaload, 1) := by decide +kernel
theorem dX5_status_47 : decode cX5_status 47 = .ok (.goto 4, 3) := by decide +kernel
theorem dX5_status_50 : decode cX5_status 50 = .ok (.iconst 0, 1) := by decide +kernel
theorem dX5_status_51 : decode cX5_status 51 = .ok (.iadd, 1) := by decide +kernel
theorem dX5_status_52 : decode cX5_status 52 = .ok (.istore_n 2, 1) := by decide +kernel
theorem dX5_status_53 : decode cX5_status 53 = .ok (.iinc 3 1, 3) := by decide +kernel
theorem dX5_status_56 : decode cX5_status 56 = .ok (.goto (-31), 3) := by decide +kernel
theorem dX5_status_59 : decode cX5_status 59 = .ok (.iload_n 2, 1) := by decide +kernel
theorem dX5_status_60 : decode cX5_status 60 = .ok (.ireturn, 1) := by decide +kernel
theorem dJ6_bitCount_0f7a4_0 : decode cJ6_bitCount_0f7a4 0 = .ok (.iload_n 0, 1) := by decide +kernel
theorem dJ6_bitCount_0f7a4_1 : decode cJ6_bitCount_0f7a4 1 = .ok (.iload_n 0, 1) := by decide +kernel
theorem dJ6_bitCount_0f7a4_2 : decode cJ6_bitCount_0f7a4 2 = .ok (.iconst 1, 1) := by decide +kernel
theorem dJ6_bitCount_0f7a4_3 : decode cJ6_bitCount_0f7a4 3 = .ok (.iushr, 1) := by decide +kernel
theorem dJ6_bitCount_0f7a4_4 : decode cJ6_bitCount_0f7a4 4 = .ok (.ldc_w 265, 3) := by decide +kernel
theorem dJ6_bitCount_0f7a4_7 : decode cJ6_bitCount_0f7a4 7 = .ok (.iand, 1) := by decide +kernel
theorem dJ6_bitCount_0f7a4_8 : decode cJ6_bitCount_0f7a4 8 = .ok (.isub, 1) := by decide +kernel
theorem dJ6_bitCount_0f7a4_9 : decode cJ6_bitCount_0f7a4 9 = .ok (.istore_n 0, 1) := by decide +kernel
theorem dJ6_bitCount_0f7a4_10 : decode cJ6_bitCount_0f7a4 10 = .ok (.iload_n 0, 1) := by decide +kernel
theorem dJ6_bitCount_0f7a4_11 : decode cJ6_bitCount_0f7a4 11 = .ok (.ldc_w 266, 3) := by decide +kernel
theorem dJ6_bitCount_0f7a4_14 : decode cJ6_bitCount_0f7a4 14 = .ok (.iand, 1) := by decide +kernel
theorem dJ6_bitCount_0f7a4_15 : decode cJ6_bitCount_0f7a4 15 = .ok (.iload_n 0, 1) := by decide +kernel
theorem dJ6_bitCount_0f7a4_16 : decode cJ6_bitCount_0f7a4 16 = .ok (.iconst 2, 1) := by decide +kernel
theorem dJ6_bitCount_0f7a4_17 : decode cJ6_bitCount_0f7a4 17 = .ok (.iushr, 1) := by decide +kernel
theorem dJ6_bitCount_0f7a4_18 : decode cJ6_bitCount_0f7a4 18 = .ok (.ldc_w 266, 3) := by decide +kernel
theorem dJ6_bitCount_0f7a4_21 : decode cJ6_bitCount_0f7a4 21 = .ok (.iand, 1) := by decide +kernel
theorem dJ6_bitCount_0f7a4_22 : decode cJ6_bitCount_0f7a4 22 = .ok (.iadd, 1) := by decide +kernel
theorem dJ6_bitCount_0f7a4_23 : decode cJ6_bitCount_0f7a4 23 = .ok (.istore_n 0, 1) := by decide +kernel
theorem dJ6_bitCount_0f7a4_24 : decode cJ6_bitCount_0f7a4 24 = .ok (.iload_n 0, 1) := by decide +kernel
theorem dJ6_bitCount_0f7a4_25 : decode cJ6_bitCount_0f7a4 25 = .ok (.iload_n 0, 1) := by decide +kernel
theorem dJ6_bitCount_0f7a4_26 : decode cJ6_bitCount_0f7a4 26 = .ok (.iconst 4, 1) := by decide +kernel
theorem dJ6_bitCount_0f7a4_27 : decode cJ6_bitCount_0f7a4 27 = .ok (.iushr, 1) := by decide +kernel
theorem dJ6_bitCount_0f7a4_28 : decode cJ6_bitCount_0f7a4 28 = .ok (.iadd, 1) := by decide +kernel
theorem dJ6_bitCount_0f7a4_29 : decode cJ6_bitCount_0f7a4 29 = .ok (.ldc_w 267, 3) := by decide +kernel
theorem dJ6_bitCount_0f7a4_32 : decode cJ6_bitCount_0f7a4 32 = .ok (.iand, 1) := by decide +kernel
theorem dJ6_bitCount_0f7a4_33 : decode cJ6_bitCount_0f7a4 33 = .ok (.istore_n 0, 1) := by decide +kernel
theorem dJ6_bitCount_0f7a4_34 : decode cJ6_bitCount_0f7a4 34 = .ok (.iload_n 0, 1) := by decide +kernel
theorem dJ6_bitCount_0f7a4_35 : decode cJ6_bitCount_0f7a4 35 = .ok (.iload_n 0, 1) := by decide +kernel
theorem dJ6_bitCount_0f7a4_36 : decode cJ6_bitCount_0f7a4 36 = .ok (.bipush 8, 2) := by decide +kernel
theorem dJ6_bitCount_0f7a4_38 : decode cJ6_bitCount_0f7a4 38 = .ok (.iushr, 1) := by decide +kernel
theorem dJ6_bitCount_0f7a4_39 : decode cJ6_bitCount_0f7a4 39 = .ok (.iadd, 1) := by decide +kernel
theorem dJ6_bitCount_0f7a4_40 : decode cJ6_bitCount_0f7a4 40 = .ok (.istore_n 0, 1) := by decide +kernel
theorem dJ6_bitCount_0f7a4_41 : decode cJ6_bitCount_0f7a4 41 = .ok (.iload_n 0, 1) := by decide +kernel
theorem dJ6_bitCount_0f7a4_42 : decode cJ6_bitCount_0f7a4 42 = .ok (.iload_n 0, 1) := by decide +kernel
theorem dJ6_bitCount_0f7a4_43 : decode cJ6_bitCount_0f7a4 43 = .ok (.bipush 16, 2) := by decide +kernel
theorem dJ6_bitCount_0f7a4_45 : decode cJ6_bitCount_0f7a4 45 = .ok (.iushr, 1) := by decide +kernel
theorem dJ6_bitCount_0f7a4_46 : decode cJ6_bitCount_0f7a4 46 = .ok (.iadd, 1) := by decide +kernel
theorem dJ6_bitCount_0f7a4_47 : decode cJ6_bitCount_0f7a4 47 = .ok (.istore_n 0, 1) := by decide +kernel
theorem dJ6_bitCount_0f7a4_48 : decode cJ6_bitCount_0f7a4 48 = .ok (.iload_n 0, 1) := by decide +kernel
theorem dJ6_bitCount_0f7a4_49 : decode cJ6_bitCount_0f7a4 49 = .ok (.bipush 63, 2) := by decide +kernel
theorem dJ6_bitCount_0f7a4_51 : decode cJ6_bitCount_0f7a4 51 = .ok (.iand, 1) := by decide +kernel
theorem dJ6_bitCount_0f7a4_52 : decode cJ6_bitCount_0f7a4 52 = .ok (.ireturn, 1) := by decide +kernel
theorem dJ9_abs_0f7a4_0 : decode cJ9_abs_0f7a4 0 = .ok (.iload_n 0, 1) := by decide +kernel
theorem dJ9_abs_0f7a4_1 : decode cJ9_abs_0f7a4 1 = .ok (.ifCond .ge 8, 3) := by decide +kernel
theorem dJ9_abs_0f7a4_4 : decode cJ9_abs_0f7a4 4 = .ok (.iload_n 0, 1) := by decide +kernel
theorem dJ9_abs_0f7a4_5 : decode cJ9_abs_0f7a4 5 = .ok (.ineg, 1) := by decide +kernel
theorem dJ9_abs_0f7a4_6 : decode cJ9_abs_0f7a4 6 = .ok (.goto 4, 3) := by decide +kernel
theorem dJ9_abs_0f7a4_9 : decode cJ9_abs_0f7a4 9 = .ok (.iload_n 0, 1) := by decide +kernel
theorem dJ9_abs_0f7a4_10 : decode cJ9_abs_0f7a4 10 = .ok (.ireturn, 1) := by decide +kernel
theorem dJ9_max_7cf53_0 : decode cJ9_max_7cf53 0 = .ok (.iload_n 0, 1) := by decide +kernel
theorem dJ9_max_7cf53_1 : decode cJ9_max_7cf53 1 = .ok (.iload_n 1, 1) := by decide +kernel
theorem dJ9_max_7cf53_2 : decode cJ9_max_7cf53 2 = .ok (.if_icmp .lt 7, 3) := by decide +kernel
theorem dJ9_max_7cf53_5 : decode cJ9_max_7cf53 5 = .ok (.iload_n 0, 1) := by decide +kernel
theorem dJ9_max_7cf53_6 : decode cJ9_max_7cf53 6 = .ok (.goto 4, 3) := by decide +kernel
theorem dJ9_max_7cf53_9 : decode cJ9_max_7cf53 9 = .ok (.iload_n 1, 1) := by decide +kernel
theorem dJ9_max_7cf53_10 : decode cJ9_max_7cf53 10 = .ok (.ireturn, 1) := by decide +kernel
theorem dJ9_min_7cf53_0 : decode cJ9_min_7cf53 0 = .ok (.iload_n 0, 1) := by decide +kernel
theorem dJ9_min_7cf53_1 : decode cJ9_min_7cf53 1 = .ok (.iload_n 1, 1) := by decide +kernel
theorem dJ9_min_7cf53_2 : decode cJ9_min_7cf53 2 = .ok (.if_icmp .gt 7, 3) := by decide +kernel
theorem dJ9_min_7cf53_5 : decode cJ9_min_7cf53 5 = .ok (.iload_n 0, 1) := by decide +kernel
theorem dJ9_min_7cf53_6 : decode cJ9_min_7cf53 6 = .ok (.goto 4, 3) := by decide +kernel
theorem dJ9_min_7cf53_9 : decode cJ9_min_7cf53 9 = .ok (.iload_n 1, 1) := by decide +kernel
theorem dJ9_min_7cf53_10 : decode cJ9_min_7cf53 10 = .ok (.ireturn, 1) := by decide +kernel
theorem dJ0_length_8abf5_0 : decode cJ0_length_8abf5 0 = .ok (.aload_n 0, 1) := by decide +kernel
theorem dJ0_length_8abf5_1 : decode cJ0_length_8abf5 1 = .ok (.getfield 9, 3) := by decide +kernel
theorem dJ0_length_8abf5_4 : decode cJ0_length_8abf5 4 = .ok (.arraylength, 1) := by decide +kernel
theorem dJ0_length_8abf5_5 : decode cJ0_length_8abf5 5 = .ok (.aload_n 0, 1) := by decide +kernel
theorem dJ0_length_8abf5_6 : decode cJ0_length_8abf5 6 = .ok (.invokevirtual 335, 3) := by decide +kernel
theorem dJ0_length_8abf5_9 : decode cJ0_length_8abf5 9 = .ok (.ishr, 1) := by decide +kernel
theorem dJ0_length_8abf5_10 : decode cJ0_length_8abf5 10 = .ok (.ireturn, 1) := by decide +kernel
theorem dJ0_charAt_5068e_0 : decode cJ0_charAt_5068e 0 = .ok (.aload_n 0, 1) := by decide +kernel
theorem dJ0_charAt_5068e_1 : decode cJ0_charAt_5068e 1 = .ok (.invokevirtual 492, 3) := by decide +kernel
theorem dJ0_charAt_5068e_4 : decode cJ0_charAt_5068e 4 = .ok (.ifCond .eq 12, 3) := by decide +kernel
theorem dJ0_charAt_5068e_7 : decode cJ0_charAt_5068e 7 = .ok (.aload_n 0, 1) := by decide +kernel
theorem dJ0_charAt_5068e_8 : decode cJ0_charAt_5068e 8 = .ok (.getfield 9, 3) := by decide +kernel
theorem dJ0_charAt_5068e_11 : decode cJ0_charAt_5068e 11 = .ok (.iload_n 1, 1) := by decide +kernel
theorem dJ0_charAt_5068e_12 : decode cJ0_charAt_5068e 12 = .ok (.invokestatic 495, 3) := by decide +kernel
theorem dJ0_charAt_5068e_15 : decode cJ0_charAt_5068e 15 = .ok (.ireturn, 1) := by decide +kernel
theorem dJ0_charAt_5068e_16 : decode cJ0_charAt_5068e 16 = .ok (.aload_n 0, 1) := by decide +kernel
theorem dJ0_charAt_5068e_17 : decode cJ0_charAt_5068e 17 = .ok (.getfield 9, 3) := by decide +kernel
theorem dJ0_charAt_5068e_20 : decode cJ0_charAt_5068e 20 = .ok (.iload_n 1, 1) := by decide +kernel
theorem dJ0_charAt_5068e_21 : decode cJ0_charAt_5068e 21 = .ok (.invokestatic 498, 3) := by decide +kernel
theorem dJ0_charAt_5068e_24 : decode cJ0_charAt_5068e 24 = .ok (.ireturn, 1) := by decide +kernel
theorem dJ0_coder_7d493_0 : decode cJ0_coder_7d493 0 = .ok (.getstatic 38, 3) := by decide +kernel
theorem dJ0_coder_7d493_3 : decode cJ0_coder_7d493 3 = .ok (.ifCond .eq 10, 3) := by decide +kernel
theorem dJ0_coder_7d493_6 : decode cJ0_coder_7d493 6 = .ok (.aload_n 0, 1) := by decide +kernel
theorem dJ0_coder_7d493_7 : decode cJ0_coder_7d493 7 = .ok (.getfield 15, 3) := by decide +kernel
theorem dJ0_coder_7d493_10 : decode cJ0_coder_7d493 10 = .ok (.goto 4, 3) := by decide +kernel
theorem dJ0_coder_7d493_13 : decode cJ0_coder_7d493 13 = .ok (.iconst 1, 1) := by decide +kernel
theorem dJ0_coder_7d493_14 : decode cJ0_coder_7d493 14 = .ok (.ireturn, 1) := by decide +kernel
theorem dJ0_isLatin1_aae02_0 : decode cJ0_isLatin1_aae02 0 = .ok (.getstatic 38, 3) := by decide +kernel
theorem dJ0_isLatin1_aae02_3 : decode cJ0_isLatin1_aae02 3 = .ok (.ifCond .eq 14, 3) := by decide +kernel
theorem dJ0_isLatin1_aae02_6 : decode cJ0_isLatin1_aae02 6 = .ok (.aload_n 0, 1) := by decide +kernel
theorem dJ0_isLatin1_aae02_7 : decode cJ0_isLatin1_aae02 7 = .ok (.getfield 15, 3) := by decide +kernel
theorem dJ0_isLatin1_aae02_10 : decode cJ0_isLatin1_aae02 10 = .ok (.ifCond .ne 7, 3) := by decide +kernel
theorem dJ0_isLatin1_aae02_13 : decode cJ0_isLatin1_aae02 13 = .ok (.iconst 1, 1) := by decide +kernel
theorem dJ0_isLatin1_aae02_14 : decode cJ0_isLatin1_aae02 14 = .ok (.goto 4, 3) := by decide +kernel
theorem dJ0_isLatin1_aae02_17 : decode cJ0_isLatin1_aae02 17 = .ok (.iconst 0, 1) := by decide +kernel
theorem dJ0_isLatin1_aae02_18 : decode cJ0_isLatin1_aae02 18 = .ok (.ireturn, 1) := by decide +kernel
theorem dJ0_checkIndex_df160_0 : decode cJ0_checkIndex_df160 0 = .ok (.iload_n 0, 1) := by decide +kernel
theorem dJ0_checkIndex_df160_1 : decode cJ0_checkIndex_df160 1 = .ok (.iload_n 1, 1) := by decide +kernel
theorem dJ0_checkIndex_df160_2 : decode cJ0_checkIndex_df160 2 = .ok (.getstatic 1053, 3) := by decide +kernel
theorem dJ0_checkIndex_df160_5 : decode cJ0_checkIndex_df160 5 = .ok (.invokestatic 1059, 3) := by decide +kernel
theorem dJ0_checkIndex_df160_8 : decode cJ0_checkIndex_df160 8 = .ok (.pop, 1) := by decide +kernel
theorem dJ0_checkIndex_df160_9 : decode cJ0_checkIndex_df160 9 = .ok (.return_, 1) := by decide +kernel
theorem dJ1_charAt_3b067_0 : decode cJ1_charAt_3b067 0 = .ok (.iload_n 1, 1) := by decide +kernel
theorem dJ1_charAt_3b067_1 : decode cJ1_charAt_3b067 1 = .ok (.aload_n 0, 1) := by decide +kernel
theorem dJ1_charAt_3b067_2 : decode cJ1_charAt_3b067 2 = .ok (.arraylength, 1) := by decide +kernel
theorem dJ1_charAt_3b067_3 : decode cJ1_charAt_3b067 3 = .ok (.invokestatic 9, 3) := by decide +kernel
theorem dJ1_charAt_3b067_6 : decode cJ1_charAt_3b067 6 = .ok (.aload_n 0, 1) := by decide +kernel
theorem dJ1_charAt_3b067_7 : decode cJ1_charAt_3b067 7 = .ok (.iload_n 1, 1) := by decide +kernel
theorem dJ1_charAt_3b067_8 : decode cJ1_charAt_3b067 8 = .ok (.baload, 1) := by decide +kernel
theorem dJ1_charAt_3b067_9 : decode cJ1_charAt_3b067 9 = .ok (.sipush 255, 3) := by decide +kernel
theorem dJ1_charAt_3b067_12 : decode cJ1_charAt_3b067 12 = .ok (.iand, 1) := by decide +kernel
theorem dJ1_charAt_3b067_13 : decode cJ1_charAt_3b067 13 = .ok (.i2c, 1) := by decide +kernel
theorem dJ1_charAt_3b067_14 : decode cJ1_charAt_3b067 14 = .ok (.ireturn, 1) := by decide +kernel
theorem dJ2_getChar_3b067_0 : decode cJ2_getChar_3b067 0 = .ok (.getstatic 44, 3) := by decide +kernel
theorem dJ2_getChar_3b067_3 : decode cJ2_getChar_3b067 3 = .ok (.ifCond .ne 25, 3) := by decide +kernel
theorem dJ2_getChar_3b067_6 : decode cJ2_getChar_3b067 6 = .ok (.iload_n 1, 1) := by decide +kernel
theorem dJ2_getChar_3b067_7 : decode cJ2_getChar_3b067 7 = .ok (.ifCond .lt 11, 3) := by decide +kernel
theorem dJ2_getChar_3b067_10 : decode cJ2_getChar_3b067 10 = .ok (.iload_n 1, 1) := by decide +kernel
theorem dJ2_getChar_3b067_11 : decode cJ2_getChar_3b067 11 = .ok (.aload_n 0, 1) := by decide +kernel
theorem dJ2_getChar_3b067_12 : decode cJ2_getChar_3b067 12 = .ok (.invokestatic 48, 3) := by decide +kernel
theorem dJ2_getChar_3b067_15 : decode cJ2_getChar_3b067 15 = .ok (.if_icmp .lt 13, 3) := by decide +kernel
theorem dJ2_getChar_3b067_18 : decode cJ2_getChar_3b067 18 = .ok (.new 52, 3) := by decide +kernel
theorem dJ2_getChar_3b067_21 : decode cJ2_getChar_3b067 21 = .ok (.dup, 1) := by decide +kernel
theorem dJ2_getChar_3b067_22 : decode cJ2_getChar_3b067 22 = .ok (.ldc 54, 2) := by decide +kernel
theorem dJ2_getChar_3b067_24 : decode cJ2_getChar_3b067 24 = .ok (.invokespecial 56, 3) := by decide +kernel
theorem dJ2_getChar_3b067_27 : decode cJ2_getChar_3b067 27 = .ok (.athrow, 1) := by decide +kernel
theorem dJ2_getChar_3b067_28 : decode cJ2_getChar_3b067 28 = .ok (.iload_n 1, 1) := by decide +kernel
theorem dJ2_getChar_3b067_29 : decode cJ2_getChar_3b067 29 = .ok (.iconst 1, 1) := by decide +kernel
theorem dJ2_getChar_3b067_30 : decode cJ2_getChar_3b067 30 = .ok (.ishl, 1) := by decide +kernel
theorem dJ2_getChar_3b067_31 : decode cJ2_getChar_3b067 31 = .ok (.istore_n 1, 1) := by decide +kernel
theorem dJ2_getChar_3b067_32 : decode cJ2_getChar_3b067 32 = .ok (.aload_n 0, 1) := by decide +kernel
theorem dJ2_getChar_3b067_33 : decode cJ2_getChar_3b067 33 = .ok (.iload_n 1, 1) := by decide +kernel
theorem dJ2_getChar_3b067_34 : decode cJ2_getChar_3b067 34 = .ok (.iinc 1 1, 3) := by decide +kernel
theorem dJ2_getChar_3b067_37 : decode cJ2_getChar_3b067 37 = .ok (.baload, 1) := by decide +kernel
theorem dJ2_getChar_3b067_38 : decode cJ2_getChar_3b067 38 = .ok (.sipush 255, 3) := by decide +kernel
theorem dJ2_getChar_3b067_41 : decode cJ2_getChar_3b067 41 = .ok (.iand, 1) := by decide +kernel
theorem dJ2_getChar_3b067_42 : decode cJ2_getChar_3b067 42 = .ok (.getstatic 59, 3) := by decide +kernel
theorem dJ2_getChar_3b067_45 : decode cJ2_getChar_3b067 45 = .ok (.ishl, 1) := by decide +kernel
theorem dJ2_getChar_3b067_46 : decode cJ2_getChar_3b067 46 = .ok (.aload_n 0, 1) := by decide +kernel
theorem dJ2_getChar_3b067_47 : decode cJ2_getChar_3b067 47 = .ok (.iload_n 1, 1) := by decide +kernel
theorem dJ2_getChar_3b067_48 : decode cJ2_getChar_3b067 48 = .ok (.baload, 1) := by decide +kernel
theorem dJ2_getChar_3b067_49 : decode cJ2_getChar_3b067 49 = .ok (.sipush 255, 3) := by decide +kernel
theorem dJ2_getChar_3b067_52 : decode cJ2_getChar_3b067 52 = .ok (.iand, 1) := by decide +kernel
theorem dJ2_getChar_3b067_53 : decode cJ2_getChar_3b067 53 = .ok (.getstatic 63, 3) := by decide +kernel
theorem dJ2_getChar_3b067_56 : decode cJ2_getChar_3b067 56 = .ok (.ishl, 1) := by decide +kernel
theorem dJ2_getChar_3b067_57 : decode cJ2_getChar_3b067 57 = .ok (.ior, 1) := by decide +kernel
theorem dJ2_getChar_3b067_58 : decode cJ2_getChar_3b067 58 = .ok (.i2c, 1) := by decide +kernel
theorem dJ2_getChar_3b067_59 : decode cJ2_getChar_3b067 59 = .ok (.ireturn, 1) := by decide +kernel
theorem dJ2_length_9d52b_0 : decode cJ2_length_9d52b 0 = .ok (.aload_n 0, 1) := by decide +kernel
theorem dJ2_length_9d52b_1 : decode cJ2_length_9d52b 1 = .ok (.arraylength, 1) := by decide +kernel
theorem dJ2_length_9d52b_2 : decode cJ2_length_9d52b 2 = .ok (.iconst 1, 1) := by decide +kernel
theorem dJ2_length_9d52b_3 : decode cJ2_length_9d52b 3 = .ok (.ishr, 1) := by decide +kernel
theorem dJ2_length_9d52b_4 : decode cJ2_length_9d52b 4 = .ok (.ireturn, 1) := by decide +kernel
theorem dJ2_charAt_3b067_0 : decode cJ2_charAt_3b067 0 = .ok (.iload_n 1, 1) := by decide +kernel
theorem dJ2_charAt_3b067_1 : decode cJ2_charAt_3b067 1 = .ok (.aload_n 0, 1) := by decide +kernel
theorem dJ2_charAt_3b067_2 : decode cJ2_charAt_3b067 2 = .ok (.invokestatic 67, 3) := by decide +kernel
theorem dJ2_charAt_3b067_5 : decode cJ2_charAt_3b067 5 = .ok (.aload_n 0, 1) := by decide +kernel
theorem dJ2_charAt_3b067_6 : decode cJ2_charAt_3b067 6 = .ok (.iload_n 1, 1) := by decide +kernel
theorem dJ2_charAt_3b067_7 : decode cJ2_charAt_3b067 7 = .ok (.invokestatic 71, 3) := by decide +kernel
theorem dJ2_charAt_3b067_10 : decode cJ2_charAt_3b067 10 = .ok (.ireturn, 1) := by decide +kernel
theorem dJ2_checkIndex_2214a_0 : decode cJ2_checkIndex_2214a 0 = .ok (.iload_n 0, 1) := by decide +kernel
theorem dJ2_checkIndex_2214a_1 : decode cJ2_checkIndex_2214a 1 = .ok (.aload_n 1, 1) := by decide +kernel
theorem dJ2_checkIndex_2214a_2 : decode cJ2_checkIndex_2214a 2 = .ok (.invokestatic 48, 3) := by decide +kernel
theorem dJ2_checkIndex_2214a_5 : decode cJ2_checkIndex_2214a 5 = .ok (.invokestatic 414, 3) := by decide +kernel
theorem dJ2_checkIndex_2214a_8 : decode cJ2_checkIndex_2214a 8 = .ok (.return_, 1) := by decide +kernel
theorem dJ7_fill_53178_0 : decode cJ7_fill_53178 0 = .ok (.iconst 0, 1) := by decide +kernel
theorem dJ7_fill_53178_1 : decode cJ7_fill_53178 1 = .ok (.istore_n 2, 1) := by decide +kernel
theorem dJ7_fill_53178_2 : decode cJ7_fill_53178 2 = .ok (.aload_n 0, 1) := by decide +kernel
theorem dJ7_fill_53178_3 : decode cJ7_fill_53178 3 = .ok (.arraylength, 1) := by decide +kernel
theorem dJ7_fill_53178_4 : decode cJ7_fill_53178 4 = .ok (.istore_n 3, 1) := by decide +kernel
theorem dJ7_fill_53178_5 : decode cJ7_fill_53178 5 = .ok (.iload_n 2, 1) := by decide +kernel
theorem dJ7_fill_53178_6 : decode cJ7_fill_53178 6 = .ok (.iload_n 3, 1) := by decide +kernel
theorem dJ7_fill_53178_7 : decode cJ7_fill_53178 7 = .ok (.if_icmp .ge 13, 3) := by decide +kernel
theorem dJ7_fill_53178_10 : decode cJ7_fill_53178 10 = .ok (.aload_n 0, 1) := by decide +kernel
theorem dJ7_fill_53178_11 : decode cJ7_fill_53178 11 = .ok (.iload_n 2, 1) := by decide +kernel
theorem dJ7_fill_53178_12 : decode cJ7_fill_53178 12 = .ok (.iload_n 1, 1) := by decide +kernel
theorem dJ7_fill_53178_13 : decode cJ7_fill_53178 13 = .ok (.iastore, 1) := by decide +kernel
theorem dJ7_fill_53178_14 : decode cJ7_fill_53178 14 = .ok (.iinc 2 1, 3) := by decide +kernel
theorem dJ7_fill_53178_17 : decode cJ7_fill_53178 17 = .ok (.goto (-12), 3) := by decide +kernel
theorem dJ7_fill_53178_20 : decode cJ7_fill_53178 20 = .ok (.return_, 1) := by decide +kernel
theorem dJ3_checkIndex_8e157_0 : decode cJ3_checkIndex_8e157 0 = .ok (.iload_n 0, 1) := by decide +kernel
theorem dJ3_checkIndex_8e157_1 : decode cJ3_checkIndex_8e157 1 = .ok (.ifCond .lt 8, 3) := by decide +kernel
theorem dJ3_checkIndex_8e157_4 : decode cJ3_checkIndex_8e157 4 = .ok (.iload_n 0, 1) := by decide +kernel
theorem dJ3_checkIndex_8e157_5 : decode cJ3_checkIndex_8e157 5 = .ok (.iload_n 1, 1) := by decide +kernel
theorem dJ3_checkIndex_8e157_6 : decode cJ3_checkIndex_8e157 6 = .ok (.if_icmp .lt 10, 3) := by decide +kernel
theorem dJ3_checkIndex_8e157_9 : decode cJ3_checkIndex_8e157 9 = .ok (.aload_n 2, 1) := by decide +kernel
theorem dJ3_checkIndex_8e157_10 : decode cJ3_checkIndex_8e157 10 = .ok (.iload_n 0, 1) := by decide +kernel
theorem dJ3_checkIndex_8e157_11 : decode cJ3_checkIndex_8e157 11 = .ok (.iload_n 1, 1) := by decide +kernel
theorem dJ3_checkIndex_8e157_12 : decode cJ3_checkIndex_8e157 12 = .ok (.invokestatic 95, 3) := by decide +kernel
theorem dJ3_checkIndex_8e157_15 : decode cJ3_checkIndex_8e157 15 = .ok (.athrow, 1) := by decide +kernel
theorem dJ3_checkIndex_8e157_16 : decode cJ3_checkIndex_8e157 16 = .ok (.iload_n 0, 1) := by decide +kernel
theorem dJ3_checkIndex_8e157_17 : decode cJ3_checkIndex_8e157 17 = .ok (.ireturn, 1) := by decide +kernel
