theorem dX4_place_0 : decode cX4_place 0 = .ok (.aload_n 0, 1) := by decide +kernel
theorem dX4_place_1 : decode cX4_place 1 = .ok (.iload_n 1, 1) := by decide +kernel
theorem dX4_place_2 : decode cX4_place 2 = .ok (.invokevirtual 150, 3) := by decide +kernel
theorem dX4_place_5 : decode cX4_place 5 = .ok (.ifCond .eq 11, 3) := by decide +kernel
theorem dX4_place_8 : decode cX4_place 8 = .ok (.aload_n 0, 1) := by decide +kernel
theorem dX4_place_9 : decode cX4_place 9 = .ok (.iload_n 2, 1) := by decide +kernel
theorem dX4_place_10 : decode cX4_place 10 = .ok (.invokevirtual 88, 3) := by decide +kernel
theorem dX4_place_13 : decode cX4_place 13 = .ok (.ifCond .ne 10, 3) := by decide +kernel
theorem dX4_place_16 : decode cX4_place 16 = .ok (.aload_n 0, 1) := by decide +kernel
theorem dX4_place_17 : decode cX4_place 17 = .ok (.ldc 65, 2) := by decide +kernel
theorem dX4_place_19 : decode cX4_place 19 = .ok (.invokevirtual 66, 3) := by decide +kernel
theorem dX4_place_22 : decode cX4_place 22 = .ok (.ireturn, 1) := by decide +kernel
theorem dX4_place_23 : decode cX4_place 23 = .ok (.aload_n 0, 1) := by decide +kernel
theorem dX4_place_24 : decode cX4_place 24 = .ok (.iload_n 1, 1) := by decide +kernel
theorem dX4_place_25 : decode cX4_place 25 = .ok (.invokevirtual 162, 3) := by decide +kernel
theorem dX4_place_28 : decode cX4_place 28 = .ok (.iconst 1, 1) := by decide +kernel
theorem dX4_place_29 : decode cX4_place 29 = .ok (.aload_n 0, 1) := by decide +kernel
theorem dX4_place_30 : decode cX4_place 30 = .ok (.aload_n 0, 1) := by decide +kernel
theorem dX4_place_31 : decode cX4_place 31 = .ok (.getfield 42, 3) := by decide +kernel
theorem dX4_place_34 : decode cX4_place 34 = .ok (.iload_n 2, 1) := by decide +kernel
theorem dX4_place_35 : decode cX4_place 35 = .ok (.iaload, 1) := by decide +kernel
theorem dX4_place_36 : decode cX4_place 36 = .ok (.iconst 1, 1) := by decide +kernel
theorem dX4_place_37 : decode cX4_place 37 = .ok (.iadd, 1) := by decide +kernel
theorem dX4_place_38 : decode cX4_place 38 = .ok (.invokevirtual 166, 3) := by decide +kernel
theorem dX4_place_41 : decode cX4_place 41 = .ok (.iadd, 1) := by decide +kernel
theorem dX4_place_42 : decode cX4_place 42 = .ok (.ireturn, 1) := by decide +kernel
theorem dX4_sum_0 : decode cX4_sum 0 = .ok (.aload_n 0, 1) := by decide +kernel
theorem dX4_sum_1 : decode cX4_sum 1 = .ok (.iload_n 1, 1) := by decide +kernel
theorem dX4_sum_2 : decode cX4_sum 2 = .ok (.invokevirtual 150, 3) := by decide +kernel
theorem dX4_sum_5 : decode cX4_sum 5 = .ok (.ifCond .eq 12, 3) := by decide +kernel
theorem dX4_sum_8 : decode cX4_sum 8 = .ok (.iload_n 2, 1) := by decide +kernel
theorem dX4_sum_9 : decode cX4_sum 9 = .ok (.iconst (-1), 1) := by decide +kernel
theorem dX4_sum_10 : decode cX4_sum 10 = .ok (.iconst 3, 1) := by decide +kernel
theorem dX4_sum_11 : decode cX4_sum 11 = .ok (.invokestatic 61, 3) := by decide +kernel
theorem dX4_sum_14 : decode cX4_sum 14 = .ok (.ifCond .ne 10, 3) := by decide +kernel
theorem dX4_sum_17 : decode cX4_sum 17 = .ok (.aload_n 0, 1) := by decide +kernel
theorem dX4_sum_18 : decode cX4_sum 18 = .ok (.ldc 65, 2) := by decide +kernel
theorem dX4_sum_20 : decode cX4_sum 20 = .ok (.invokevirtual 66, 3) := by decide +kernel
theorem dX4_sum_23 : decode cX4_sum 23 = .ok (.ireturn, 1) := by decide +kernel
theorem dX4_sum_24 : decode cX4_sum 24 = .ok (.aload_n 0, 1) := by decide +kernel
theorem dX4_sum_25 : decode cX4_sum 25 = .ok (.iload_n 1, 1) := by decide +kernel
theorem dX4_sum_26 : decode cX4_sum 26 = .ok (.invokevirtual 162, 3) := by decide +kernel
theorem dX4_sum_29 : decode cX4_sum 29 = .ok (.iconst 0, 1) := by decide +kernel
theorem dX4_sum_30 : decode cX4_sum 30 = .ok (.istore_n 3, 1) := by decide +kernel
theorem dX4_sum_31 : decode cX4_sum 31 = .ok (.iconst 0, 1) := by decide +kernel
theorem dX4_sum_32 : decode cX4_sum 32 = .ok (.istore 4, 2) := by decide +kernel
theorem dX4_sum_34 : decode cX4_sum 34 = .ok (.iload 4, 2) := by decide +kernel
theorem dX4_sum_36 : decode cX4_sum 36 = .ok (.aload_n 0, 1) := by decide +kernel
theorem dX4_sum_37 : decode cX4_sum 37 = .ok (.getfield 12, 3) := by decide +kernel
theorem dX4_sum_40 : decode cX4_sum 40 = .ok (.getfield 80, 3) := by decide +kernel
theorem dX4_sum_43 : decode cX4_sum 43 = .ok (.if_icmp .ge 38, 3) := by decide +kernel
theorem dX4_sum_46 : decode cX4_sum 46 = .ok (.iload_n 2, 1) := by decide +kernel
theorem dX4_sum_47 : decode cX4_sum 47 = .ok (.iconst (-1), 1) := by decide +kernel
theorem dX4_sum_48 : decode cX4_sum 48 = .ok (.if_icmp .eq 17, 3) := by decide +kernel
theorem dX4_sum_51 : decode cX4_sum 51 = .ok (.aload_n 0, 1) := by decide +kernel
theorem dX4_sum_52 : decode cX4_sum 52 = .ok (.getfield 12, 3) := by decide +kernel
theorem dX4_sum_55 : decode cX4_sum 55 = .ok (.getfield 101, 3) := by decide +kernel
theorem dX4_sum_58 : decode cX4_sum 58 = .ok (.iload 4, 2) := by decide +kernel
theorem dX4_sum_60 : decode cX4_sum 60 = .ok (.iaload, 1) := by decide +kernel
theorem dX4_sum_61 : decode cX4_sum 61 = .ok (.iload_n 2, 1) := by decide +kernel
theorem dX4_sum_62 : decode cX4_sum 62 = .ok (.if_icmp .ne 13, 3) := by decide +kernel
theorem dX4_sum_65 : decode cX4_sum 65 = .ok (.iload_n 3, 1) := by decide +kernel
theorem dX4_sum_66 : decode cX4_sum 66 = .ok (.aload_n 0, 1) := by decide +kernel
theorem dX4_sum_67 : decode cX4_sum 67 = .ok (.getfield 42, 3) := by decide +kernel
theorem dX4_sum_70 : decode cX4_sum 70 = .ok (.iload 4, 2) := by decide +kernel
theorem dX4_sum_72 : decode cX4_sum 72 = .ok (.iaload, 1) := by decide +kernel
theorem dX4_sum_73 : decode cX4_sum 73 = .ok (.iadd, 1) := by decide +kernel
theorem dX4_sum_74 : decode cX4_sum 74 = .ok (.istore_n 3, 1) := by decide +kernel
theorem dX4_sum_75 : decode cX4_sum 75 = .ok (.iinc 4 1, 3) := by decide +kernel
theorem dX4_sum_78 : decode cX4_sum 78 = .ok (.goto (-44), 3) := by decide +kernel
theorem dX4_sum_81 : decode cX4_sum 81 = .ok (.iload_n 3, 1) := by decide +kernel
theorem dX4_sum_82 : decode cX4_sum 82 = .ok (.ireturn, 1) := by decide +kernel
theorem dX4_middle_0 : decode cX4_middle 0 = .ok (.aload_n 0, 1) := by decide +kernel
theorem dX4_middle_1 : decode cX4_middle 1 = .ok (.iload_n 1, 1) := by decide +kernel
theorem dX4_middle_2 : decode cX4_middle 2 = .ok (.invokevirtual 150, 3) := by decide +kernel
theorem dX4_middle_5 : decode cX4_middle 5 = .ok (.ifCond .ne 10, 3) := by decide +kernel
theorem dX4_middle_8 : decode cX4_middle 8 = .ok (.aload_n 0, 1) := by decide +kernel
theorem dX4_middle_9 : decode cX4_middle 9 = .ok (.ldc 65, 2) := by decide +kernel
theorem dX4_middle_11 : decode cX4_middle 11 = .ok (.invokevirtual 66, 3) := by decide +kernel
theorem dX4_middle_14 : decode cX4_middle 14 = .ok (.ireturn, 1) := by decide +kernel
theorem dX4_middle_15 : decode cX4_middle 15 = .ok (.aload_n 0, 1) := by decide +kernel
theorem dX4_middle_16 : decode cX4_middle 16 = .ok (.getfield 12, 3) := by decide +kernel
theorem dX4_middle_19 : decode cX4_middle 19 = .ok (.getfield 80, 3) := by decide +kernel
theorem dX4_middle_22 : decode cX4_middle 22 = .ok (.ifCond .ne 10, 3) := by decide +kernel
theorem dX4_middle_25 : decode cX4_middle 25 = .ok (.aload_n 0, 1) := by decide +kernel
theorem dX4_middle_26 : decode cX4_middle 26 = .ok (.ldc 111, 2) := by decide +kernel
theorem dX4_middle_28 : decode cX4_middle 28 = .ok (.invokevirtual 66, 3) := by decide +kernel
theorem dX4_middle_31 : decode cX4_middle 31 = .ok (.ireturn, 1) := by decide +kernel
theorem dX4_middle_32 : decode cX4_middle 32 = .ok (.aload_n 0, 1) := by decide +kernel
theorem dX4_middle_33 : decode cX4_middle 33 = .ok (.iload_n 1, 1) := by decide +kernel
theorem dX4_middle_34 : decode cX4_middle 34 = .ok (.invokevirtual 162, 3) := by decide +kernel
theorem dX4_middle_37 : decode cX4_middle 37 = .ok (.aload_n 0, 1) := by decide +kernel
theorem dX4_middle_38 : decode cX4_middle 38 = .ok (.aload_n 0, 1) := by decide +kernel
theorem dX4_middle_39 : decode cX4_middle 39 = .ok (.getfield 12, 3) := by decide +kernel
theorem dX4_middle_42 : decode cX4_middle 42 = .ok (.getfield 80, 3) := by decide +kernel
theorem dX4_middle_45 : decode cX4_middle 45 = .ok (.aload_n 0, 1) := by decide +kernel
theorem dX4_middle_46 : decode cX4_middle 46 = .ok (.getfield 12, 3) := by decide +kernel
theorem dX4_middle_49 : decode cX4_middle 49 = .ok (.getfield 80, 3) := by decide +kernel
theorem dX4_middle_52 : decode cX4_middle 52 = .ok (.iconst 1, 1) := by decide +kernel
theorem dX4_middle_53 : decode cX4_middle 53 = .ok (.isub, 1) := by decide +kernel
theorem dX4_middle_54 : decode cX4_middle 54 = .ok (.iconst 2, 1) := by decide +kernel
theorem dX4_middle_55 : decode cX4_middle 55 = .ok (.idiv, 1) := by decide +kernel
theorem dX4_middle_56 : decode cX4_middle 56 = .ok (.isub, 1) := by decide +kernel
theorem dX4_middle_57 : decode cX4_middle 57 = .ok (.invokevirtual 169, 3) := by decide +kernel
theorem dX4_middle_60 : decode cX4_middle 60 = .ok (.ireturn, 1) := by decide +kernel
theorem dX4_keeps_0 : decode cX4_keeps 0 = .ok (.aload_n 0, 1) := by decide +kernel
theorem dX4_keeps_1 : decode cX4_keeps 1 = .ok (.iload_n 1, 1) := by decide +kernel
theorem dX4_keeps_2 : decode cX4_keeps 2 = .ok (.invokevirtual 150, 3) := by decide +kernel
theorem dX4_keeps_5 : decode cX4_keeps 5 = .ok (.ifCond .ne 10, 3) := by decide +kernel
theorem dX4_keeps_8 : decode cX4_keeps 8 = .ok (.aload_n 0, 1) := by decide +kernel
theorem dX4_keeps_9 : decode cX4_keeps 9 = .ok (.ldc 65, 2) := by decide +kernel
theorem dX4_keeps_11 : decode cX4_keeps 11 = .ok (.invokevirtual 66, 3) := by decide +kernel
theorem dX4_keeps_14 : decode cX4_keeps 14 = .ok (.ireturn, 1) := by decide +kernel
theorem dX4_keeps_15 : decode cX4_keeps 15 = .ok (.aload_n 0, 1) := by decide +kernel
theorem dX4_keeps_16 : decode cX4_keeps 16 = .ok (.iload_n 1, 1) := by decide +kernel
theorem dX4_keeps_17 : decode cX4_keeps 17 = .ok (.invokevirtual 172, 3) := by decide +kernel
theorem dX4_keeps_20 : decode cX4_keeps 20 = .ok (.ifCond .ge 7, 3) := by decide +kernel
theorem dX4_keeps_23 : decode cX4_keeps 23 = .ok (.iconst 1, 1) := by decide +kernel
theorem dX4_keeps_24 : decode cX4_keeps 24 = .ok (.goto 4, 3) := by decide +kernel
theorem dX4_keeps_27 : decode cX4_keeps 27 = .ok (.iconst 0, 1) := by decide +kernel
theorem dX4_keeps_28 : decode cX4_keeps 28 = .ok (.ireturn, 1) := by decide +kernel
theorem dX4_breaks_0 : decode cX4_breaks 0 = .ok (.aload_n 0, 1) := by decide +kernel
theorem dX4_breaks_1 : decode cX4_breaks 1 = .ok (.iload_n 1, 1) := by decide +kernel
theorem dX4_breaks_2 : decode cX4_breaks 2 = .ok (.invokevirtual 150, 3) := by decide +kernel
theorem dX4_breaks_5 : decode cX4_breaks 5 = .ok (.ifCond .ne 10, 3) := by decide +kernel
theorem dX4_breaks_8 : decode cX4_breaks 8 = .ok (.aload_n 0, 1) := by decide +kernel
theorem dX4_breaks_9 : decode cX4_breaks 9 = .ok (.ldc 65, 2) := by decide +kernel
theorem dX4_breaks_11 : decode cX4_breaks 11 = .ok (.invokevirtual 66, 3) := by decide +kernel
theorem dX4_breaks_14 : decode cX4_breaks 14 = .ok (.ireturn, 1) := by decide +kernel
theorem dX4_breaks_15 : decode cX4_breaks 15 = .ok (.aload_n 0, 1) := by decide +kernel
theorem dX4_breaks_16 : decode cX4_breaks 16 = .ok (.iload_n 1, 1) := by decide +kernel
theorem dX4_breaks_17 : decode cX4_breaks 17 = .ok (.invokevirtual 172, 3) := by decide +kernel
theorem dX4_breaks_20 : decode cX4_breaks 20 = .ok (.istore_n 2, 1) := by decide +kernel
theorem dX4_breaks_21 : decode cX4_breaks 21 = .ok (.iload_n 2, 1) := by decide +kernel
theorem dX4_breaks_22 : decode cX4_breaks 22 = .ok (.ifCond .ge 12, 3) := by decide +kernel
theorem dX4_breaks_25 : decode cX4_breaks 25 = .ok (.aload_n 0, 1) := by decide +kernel
theorem dX4_breaks_26 : decode cX4_breaks 26 = .ok (.ldc 111, 2) := by decide +kernel
theorem dX4_breaks_28 : decode cX4_breaks 28 = .ok (.invokevirtual 66, 3) := by decide +kernel
theorem dX4_breaks_31 : decode cX4_breaks 31 = .ok (.goto 4, 3) := by decide +kernel
theorem dX4_breaks_34 : decode cX4_breaks 34 = .ok (.iload_n 2, 1) := by decide +kernel
theorem dX4_breaks_35 : decode cX4_breaks 35 = .ok (.ireturn, 1) := by decide +kernel
theorem dX4_heaped_0 : decode cX4_heaped 0 = .ok (.aload_n 0, 1) := by decide +kernel
theorem dX4_heaped_1 : decode cX4_heaped 1 = .ok (.iload_n 1, 1) := by decide +kernel
theorem dX4_heaped_2 : decode cX4_heaped 2 = .ok (.invokevirtual 150, 3) := by decide +kernel
theorem dX4_heaped_5 : decode cX4_heaped 5 = .ok (.ifCond .ne 10, 3) := by decide +kernel
theorem dX4_heaped_8 : decode cX4_heaped 8 = .ok (.aload_n 0, 1) := by decide +kernel
theorem dX4_heaped_9 : decode cX4_heaped 9 = .ok (.ldc 65, 2) := by decide +kernel
theorem dX4_heaped_11 : decode cX4_heaped 11 = .ok (.invokevirtual 66, 3) := by decide +kernel
theorem dX4_heaped_14 : decode cX4_heaped 14 = .ok (.ireturn, 1) := by decide +kernel
theorem dX4_heaped_15 : decode cX4_heaped 15 = .ok (.aload_n 0, 1) := by decide +kernel
theorem dX4_heaped_16 : decode cX4_heaped 16 = .ok (.iload_n 1, 1) := by decide +kernel
theorem dX4_heaped_17 : decode cX4_heaped 17 = .ok (.invokevirtual 162, 3) := by decide +kernel
theorem dX4_heaped_20 : decode cX4_heaped 20 = .ok (.iconst 0, 1) := by decide +kernel
theorem dX4_heaped_21 : decode cX4_heaped 21 = .ok (.istore_n 2, 1) := by decide +kernel
theorem dX4_heaped_22 : decode cX4_heaped 22 = .ok (.iconst 0, 1) := by decide +kernel
theorem dX4_heaped_23 : decode cX4_heaped 23 = .ok (.istore_n 3, 1) := by decide +kernel
theorem dX4_heaped_24 : decode cX4_heaped 24 = .ok (.iload_n 3, 1) := by decide +kernel
theorem dX4_heaped_25 : decode cX4_heaped 25 = .ok (.aload_n 0, 1) := by decide +kernel
theorem dX4_heaped_26 : decode cX4_heaped 26 = .ok (.getfield 12, 3) := by decide +kernel
theorem dX4_heaped_29 : decode cX4_heaped 29 = .ok (.getfield 80, 3) := by decide +kernel
theorem dX4_heaped_32 : decode cX4_heaped 32 = .ok (.if_icmp .ge 73, 3) := by decide +kernel
theorem dX4_heaped_35 : decode cX4_heaped 35 = .ok (.iload_n 3, 1) := by decide +kernel
theorem dX4_heaped_36 : decode cX4_heaped 36 = .ok (.iconst 1, 1) := by decide +kernel
theorem dX4_heaped_37 : decode cX4_heaped 37 = .ok (.iadd, 1) := by decide +kernel
theorem dX4_heaped_38 : decode cX4_heaped 38 = .ok (.istore 4, 2) := by decide +kernel
theorem dX4_heaped_40 : decode cX4_heaped 40 = .ok (.iload 4, 2) := by decide +kernel
theorem dX4_heaped_42 : decode cX4_heaped 42 = .ok (.aload_n 0, 1) := by decide +kernel
theorem dX4_heaped_43 : decode cX4_heaped 43 = .ok (.getfield 12, 3) := by decide +kernel
theorem dX4_heaped_46 : decode cX4_heaped 46 = .ok (.getfield 80, 3) := by decide +kernel
theorem dX4_heaped_49 : decode cX4_heaped 49 = .ok (.if_icmp .ge 50, 3) := by decide +kernel
theorem dX4_heaped_52 : decode cX4_heaped 52 = .ok (.aload_n 0, 1) := by decide +kernel
theorem dX4_heaped_53 : decode cX4_heaped 53 = .ok (.getfield 25, 3) := by decide +kernel
theorem dX4_heaped_56 : decode cX4_heaped 56 = .ok (.getfield 175, 3) := by decide +kernel
theorem dX4_heaped_59 : decode cX4_heaped 59 = .ok (.iload_n 3, 1) := by decide +kernel
theorem dX4_heaped_60 : decode cX4_heaped 60 = .ok (.iaload, 1) := by decide +kernel
theorem dX4_heaped_61 : decode cX4_heaped 61 = .ok (.aload_n 0, 1) := by decide +kernel
theorem dX4_heaped_62 : decode cX4_heaped 62 = .ok (.getfield 25, 3) := by decide +kernel
theorem dX4_heaped_65 : decode cX4_heaped 65 = .ok (.getfield 175, 3) := by decide +kernel
theorem dX4_heaped_68 : decode cX4_heaped 68 = .ok (.iload 4, 2) := by decide +kernel
theorem dX4_heaped_70 : decode cX4_heaped 70 = .ok (.iaload, 1) := by decide +kernel
theorem dX4_heaped_71 : decode cX4_heaped 71 = .ok (.if_icmp .eq 22, 3) := by decide +kernel
theorem dX4_heaped_74 : decode cX4_heaped 74 = .ok (.aload_n 0, 1) := by decide +kernel
theorem dX4_heaped_75 : decode cX4_heaped 75 = .ok (.getfield 42, 3) := by decide +kernel
theorem dX4_heaped_78 : decode cX4_heaped 78 = .ok (.iload_n 3, 1) := by decide +kernel
theorem dX4_heaped_79 : decode cX4_heaped 79 = .ok (.iaload, 1) := by decide +kernel
theorem dX4_heaped_80 : decode cX4_heaped 80 = .ok (.aload_n 0, 1) := by decide +kernel
theorem dX4_heaped_81 : decode cX4_heaped 81 = .ok (.getfield 42, 3) := by decide +kernel
theorem dX4_heaped_84 : decode cX4_heaped 84 = .ok (.iload 4, 2) := by decide +kernel
theorem dX4_heaped_86 : decode cX4_heaped 86 = .ok (.iaload, 1) := by decide +kernel
theorem dX4_heaped_87 : decode cX4_heaped 87 = .ok (.if_icmp .ne 6, 3) := by decide +kernel
theorem dX4_heaped_90 : decode cX4_heaped 90 = .ok (.iinc 2 1, 3) := by decide +kernel
theorem dX4_heaped_93 : decode cX4_heaped 93 = .ok (.iinc 4 1, 3) := by decide +kernel
theorem dX4_heaped_96 : decode cX4_heaped 96 = .ok (.goto (-56), 3) := by decide +kernel
theorem dX4_heaped_99 : decode cX4_heaped 99 = .ok (.iinc 3 1, 3) := by decide +kernel
theorem dX4_heaped_102 : decode cX4_heaped 102 = .ok (.goto (-78), 3) := by decide +kernel
theorem dX4_heaped_105 : decode cX4_heaped 105 = .ok (.iload_n 2, 1) := by decide +kernel
theorem dX4_heaped_106 : decode cX4_heaped 106 = .ok (.ireturn, 1) := by decide +kernel
theorem dX4_gains_0 : decode cX4_gains 0 = .ok (.aload_n 0, 1) := by decide +kernel
theorem dX4_gains_1 : decode cX4_gains 1 = .ok (.iload_n 1, 1) := by decide +kernel
theorem dX4_gains_2 : decode cX4_gains 2 = .ok (.invokevirtual 150, 3) := by decide +kernel
theorem dX4_gains_5 : decode cX4_gains 5 = .ok (.ifCond .ne 10, 3) := by decide +kernel
theorem dX4_gains_8 : decode cX4_gains 8 = .ok (.aload_n 0, 1) := by decide +kernel
theorem dX4_gains_9 : decode cX4_gains 9 = .ok (.ldc 65, 2) := by decide +kernel
theorem dX4_gains_11 : decode cX4_gains 11 = .ok (.invokevirtual 66, 3) := by decide +kernel
theorem dX4_gains_14 : decode cX4_gains 14 = .ok (.ireturn, 1) := by decide +kernel
theorem dX4_gains_15 : decode cX4_gains 15 = .ok (.aload_n 0, 1) := by decide +kernel
theorem dX4_gains_16 : decode cX4_gains 16 = .ok (.getfield 25, 3) := by decide +kernel
theorem dX4_gains_19 : decode cX4_gains 19 = .ok (.aload_n 0, 1) := by decide +kernel
theorem dX4_gains_20 : decode cX4_gains 20 = .ok (.getfield 12, 3) := by decide +kernel
theorem dX4_gains_23 : decode cX4_gains 23 = .ok (.invokevirtual 112, 3) := by decide +kernel
theorem dX4_gains_26 : decode cX4_gains 26 = .ok (.iconst 0, 1) := by decide +kernel
theorem dX4_gains_27 : decode cX4_gains 27 = .ok (.istore_n 2, 1) := by decide +kernel
theorem dX4_gains_28 : decode cX4_gains 28 = .ok (.iconst 0, 1) := by decide +kernel
theorem dX4_gains_29 : decode cX4_gains 29 = .ok (.istore_n 3, 1) := by decide +kernel
theorem dX4_gains_30 : decode cX4_gains 30 = .ok (.iload_n 3, 1) := by decide +kernel
theorem dX4_gains_31 : decode cX4_gains 31 = .ok (.aload_n 0, 1) := by decide +kernel
theorem dX4_gains_32 : decode cX4_gains 32 = .ok (.getfield 12, 3) := by decide +kernel
theorem dX4_gains_35 : decode cX4_gains 35 = .ok (.getfield 80, 3) := by decide +kernel
theorem dX4_gains_38 : decode cX4_gains 38 = .ok (.if_icmp .ge 24, 3) := by decide +kernel
theorem dX4_gains_41 : decode cX4_gains 41 = .ok (.aload_n 0, 1) := by decide +kernel
theorem dX4_gains_42 : decode cX4_gains 42 = .ok (.iload_n 1, 1) := by decide +kernel
theorem dX4_gains_43 : decode cX4_gains 43 = .ok (.iload_n 3, 1) := by decide +kernel
theorem dX4_gains_44 : decode cX4_gains 44 = .ok (.invokevirtual 178, 3) := by decide +kernel
theorem dX4_gains_47 : decode cX4_gains 47 = .ok (.ifCond .lt 9, 3) := by decide +kernel
theorem dX4_gains_50 : decode cX4_gains 50 = .ok (.iload_n 2, 1) := by decide +kernel
theorem dX4_gains_51 : decode cX4_gains 51 = .ok (.iconst 1, 1) := by decide +kernel
theorem dX4_gains_52 : decode cX4_gains 52 = .ok (.iload_n 3, 1) := by decide +kernel
theorem dX4_gains_53 : decode cX4_gains 53 = .ok (.ishl, 1) := by decide +kernel
theorem dX4_gains_54 : decode cX4_gains 54 = .ok (.ior, 1) := by decide +kernel
theorem dX4_gains_55 : decode cX4_gains 55 = .ok (.istore_n 2, 1) := by decide +kernel
theorem dX4_gains_56 : decode cX4_gains 56 = .ok (.iinc 3 1, 3) := by decide +kernel
theorem dX4_gains_59 : decode cX4_gains 59 = .ok (.goto (-29), 3) := by decide +kernel
theorem dX4_gains_62 : decode cX4_gains 62 = .ok (.iload_n 2, 1) := by decide +kernel
theorem dX4_gains_63 : decode cX4_gains 63 = .ok (.ireturn, 1) := by decide +kernel
theorem dX4_gainsBy_0 : decode cX4_gainsBy 0 = .ok (.aload_n 0, 1) := by decide +kernel
theorem dX4_gainsBy_1 : decode cX4_gainsBy 1 = .ok (.iload_n 1, 1) := by decide +kernel
theorem dX4_gainsBy_2 : decode cX4_gainsBy 2 = .ok (.invokevirtual 150, 3) := by decide +kernel
theorem dX4_gainsBy_5 : decode cX4_gainsBy 5 = .ok (.ifCond .eq 11, 3) := by decide +kernel
theorem dX4_gainsBy_8 : decode cX4_gainsBy 8 = .ok (.aload_n 0, 1) := by decide +kernel
theorem dX4_gainsBy_9 : decode cX4_gainsBy 9 = .ok (.iload_n 2, 1) := by decide +kernel
theorem dX4_gainsBy_10 : decode cX4_gainsBy 10 = .ok (.invokevirtual 88, 3) := by decide +kernel
theorem dX4_gainsBy_13 : decode cX4_gainsBy 13 = .ok (.ifCond .ne 10, 3) := by decide +kernel
theorem dX4_gainsBy_16 : decode cX4_gainsBy 16 = .ok (.aload_n 0, 1) := by decide +kernel
theorem dX4_gainsBy_17 : decode cX4_gainsBy 17 = .ok (.ldc 65, 2) := by decide +kernel
theorem dX4_gainsBy_19 : decode cX4_gainsBy 19 = .ok (.invokevirtual 66, 3) := by decide +kernel
theorem dX4_gainsBy_22 : decode cX4_gainsBy 22 = .ok (.ireturn, 1) := by decide +kernel
theorem dX4_gainsBy_23 : decode cX4_gainsBy 23 = .ok (.aload_n 0, 1) := by decide +kernel
theorem dX4_gainsBy_24 : decode cX4_gainsBy 24 = .ok (.getfield 25, 3) := by decide +kernel
theorem dX4_gainsBy_27 : decode cX4_gainsBy 27 = .ok (.aload_n 0, 1) := by decide +kernel
theorem dX4_gainsBy_28 : decode cX4_gainsBy 28 = .ok (.getfield 12, 3) := by decide +kernel
theorem dX4_gainsBy_31 : decode cX4_gainsBy 31 = .ok (.invokevirtual 112, 3) := by decide +kernel
theorem dX4_gainsBy_34 : decode cX4_gainsBy 34 = .ok (.aload_n 0, 1) := by decide +kernel
theorem dX4_gainsBy_35 : decode cX4_gainsBy 35 = .ok (.iload_n 1, 1) := by decide +kernel
theorem dX4_gainsBy_36 : decode cX4_gainsBy 36 = .ok (.iload_n 2, 1) := by decide +kernel
theorem dX4_gainsBy_37 : decode cX4_gainsBy 37 = .ok (.invokevirtual 178, 3) := by decide +kernel
theorem dX4_gainsBy_40 : decode cX4_gainsBy 40 = .ok (.istore_n 3, 1) := by decide +kernel
theorem dX4_gainsBy_41 : decode cX4_gainsBy 41 = .ok (.iload_n 3, 1) := by decide +kernel
theorem dX4_gainsBy_42 : decode cX4_gainsBy 42 = .ok (.ifCond .ge 12, 3) := by decide +kernel
theorem dX4_gainsBy_45 : decode cX4_gainsBy 45 = .ok (.aload_n 0, 1) := by decide +kernel
theorem dX4_gainsBy_46 : decode cX4_gainsBy 46 = .ok (.ldc 111, 2) := by decide +kernel
theorem dX4_gainsBy_48 : decode cX4_gainsBy 48 = .ok (.invokevirtual 66, 3) := by decide +kernel
theorem dX4_gainsBy_51 : decode cX4_gainsBy 51 = .ok (.goto 4, 3) := by decide +kernel
theorem dX4_gainsBy_54 : decode cX4_gainsBy 54 = .ok (.iload_n 3, 1) := by decide +kernel
theorem dX4_gainsBy_55 : decode cX4_gainsBy 55 = .ok (.ireturn, 1) := by decide +kernel
theorem dX4_moves_0 : decode cX4_moves 0 = .ok (.aload_n 0, 1) := by decide +kernel
theorem dX4_moves_1 : decode cX4_moves 1 = .ok (.iload_n 1, 1) := by decide +kernel
theorem dX4_moves_2 : decode cX4_moves 2 = .ok (.invokevirtual 150, 3) := by decide +kernel
theorem dX4_moves_5 : decode cX4_moves 5 = .ok (.ifCond .eq 13, 3) := by decide +kernel
theorem dX4_moves_8 : decode cX4_moves 8 = .ok (.iload_n 2, 1) := by decide +kernel
theorem dX4_moves_9 : decode cX4_moves 9 = .ok (.iconst 0, 1) := by decide +kernel
theorem dX4_moves_10 : decode cX4_moves 10 = .ok (.bipush 40, 2) := by decide +kernel
theorem dX4_moves_12 : decode cX4_moves 12 = .ok (.invokestatic 61, 3) := by decide +kernel
theorem dX4_moves_15 : decode cX4_moves 15 = .ok (.ifCond .ne 10, 3) := by decide +kernel
theorem dX4_moves_18 : decode cX4_moves 18 = .ok (.aload_n 0, 1) := by decide +kernel
theorem dX4_moves_19 : decode cX4_moves 19 = .ok (.ldc 65, 2) := by decide +kernel
theorem dX4_moves_21 : decode cX4_moves 21 = .ok (.invokevirtual 66, 3) := by decide +kernel
theorem dX4_moves_24 : decode cX4_moves 24 = .ok (.ireturn, 1) := by decide +kernel
theorem dX4_moves_25 : decode cX4_moves 25 = .ok (.aload_n 0, 1) := by decide +kernel
theorem dX4_moves_26 : decode cX4_moves 26 = .ok (.getfield 12, 3) := by decide +kernel
theorem dX4_moves_29 : decode cX4_moves 29 = .ok (.getfield 80, 3) := by decide +kernel
theorem dX4_moves_32 : decode cX4_moves 32 = .ok (.bipush 12, 2) := by decide +kernel
theorem dX4_moves_34 : decode cX4_moves 34 = .ok (.if_icmp .lt 10, 3) := by decide +kernel
theorem dX4_moves_37 : decode cX4_moves 37 = .ok (.aload_n 0, 1) := by decide +kernel
theorem dX4_moves_38 : decode cX4_moves 38 = .ok (.ldc 181, 2) := by decide +kernel
theorem dX4_moves_40 : decode cX4_moves 40 = .ok (.invokevirtual 66, 3) := by decide +kernel
theorem dX4_moves_43 : decode cX4_moves 43 = .ok (.ireturn, 1) := by decide +kernel
theorem dX4_moves_44 : decode cX4_moves 44 = .ok (.aload_n 0, 1) := by decide +kernel
theorem dX4_moves_45 : decode cX4_moves 45 = .ok (.iload_n 1, 1) := by decide +kernel
theorem dX4_moves_46 : decode cX4_moves 46 = .ok (.invokevirtual 162, 3) := by decide +kernel
theorem dX4_moves_49 : decode cX4_moves 49 = .ok (.aload_n 0, 1) := by decide +kernel
theorem dX4_moves_50 : decode cX4_moves 50 = .ok (.getfield 25, 3) := by decide +kernel
theorem dX4_moves_53 : decode cX4_moves 53 = .ok (.iload_n 2, 1) := by decide +kernel
theorem dX4_moves_54 : decode cX4_moves 54 = .ok (.invokevirtual 182, 3) := by decide +kernel
theorem dX4_moves_57 : decode cX4_moves 57 = .ok (.aload_n 0, 1) := by decide +kernel
theorem dX4_moves_58 : decode cX4_moves 58 = .ok (.getfield 25, 3) := by decide +kernel
theorem dX4_moves_61 : decode cX4_moves 61 = .ok (.aload_n 0, 1) := by decide +kernel
theorem dX4_moves_62 : decode cX4_moves 62 = .ok (.getfield 12, 3) := by decide +kernel
theorem dX4_moves_65 : decode cX4_moves 65 = .ok (.getfield 153, 3) := by decide +kernel
theorem dX4_moves_68 : decode cX4_moves 68 = .ok (.iload_n 1, 1) := by decide +kernel
theorem dX4_moves_69 : decode cX4_moves 69 = .ok (.iaload, 1) := by decide +kernel
theorem dX4_moves_70 : decode cX4_moves 70 = .ok (.aload_n 0, 1) := by decide +kernel
theorem dX4_moves_71 : decode cX4_moves 71 = .ok (.getfield 12, 3) := by decide +kernel
theorem dX4_moves_74 : decode cX4_moves 74 = .ok (.getfield 156, 3) := by decide +kernel
theorem dX4_moves_77 : decode cX4_moves 77 = .ok (.iload_n 1, 1) := by decide +kernel
theorem dX4_moves_78 : decode cX4_moves 78 = .ok (.iaload, 1) := by decide +kernel
theorem dX4_moves_79 : decode cX4_moves 79 = .ok (.aload_n 0, 1) := by decide +kernel
theorem dX4_moves_80 : decode cX4_moves 80 = .ok (.getfield 46, 3) := by decide +kernel
theorem dX4_moves_83 : decode cX4_moves 83 = .ok (.invokevirtual 185, 3) := by decide +kernel
theorem dX4_moves_86 : decode cX4_moves 86 = .ok (.iconst 0, 1) := by decide +kernel
theorem dX4_moves_87 : decode cX4_moves 87 = .ok (.istore_n 3, 1) := by decide +kernel
theorem dX4_moves_88 : decode cX4_moves 88 = .ok (.iconst 0, 1) := by decide +kernel
theorem dX4_moves_89 : decode cX4_moves 89 = .ok (.istore 4, 2) := by decide +kernel
theorem dX4_moves_91 : decode cX4_moves 91 = .ok (.iload 4, 2) := by decide +kernel
theorem dX4_moves_93 : decode cX4_moves 93 = .ok (.aload_n 0, 1) := by decide +kernel
theorem dX4_moves_94 : decode cX4_moves 94 = .ok (.getfield 12, 3) := by decide +kernel
theorem dX4_moves_97 : decode cX4_moves 97 = .ok (.getfield 80, 3) := by decide +kernel
theorem dX4_moves_100 : decode cX4_moves 100 = .ok (.if_icmp .ge 33, 3) := by decide +kernel
theorem dX4_moves_103 : decode cX4_moves 103 = .ok (.aload_n 0, 1) := by decide +kernel
theorem dX4_moves_104 : decode cX4_moves 104 = .ok (.getfield 46, 3) := by decide +kernel
theorem dX4_moves_107 : decode cX4_moves 107 = .ok (.iload 4, 2) := by decide +kernel
theorem dX4_moves_109 : decode cX4_moves 109 = .ok (.iaload, 1) := by decide +kernel
theorem dX4_moves_110 : decode cX4_moves 110 = .ok (.aload_n 0, 1) := by decide +kernel
theorem dX4_moves_111 : decode cX4_moves 111 = .ok (.getfield 42, 3) := by decide +kernel
theorem dX4_moves_114 : decode cX4_moves 114 = .ok (.iload 4, 2) := by decide +kernel
theorem dX4_moves_116 : decode cX4_moves 116 = .ok (.iaload, 1) := by decide +kernel
theorem dX4_moves_117 : decode cX4_moves 117 = .ok (.if_icmp .eq 10, 3) := by decide +kernel
theorem dX4_moves_120 : decode cX4_moves 120 = .ok (.iload_n 3, 1) := by decide +kernel
theorem dX4_moves_121 : decode cX4_moves 121 = .ok (.iconst 1, 1) := by decide +kernel
theorem dX4_moves_122 : decode cX4_moves 122 = .ok (.iload 4, 2) := by decide +kernel
theorem dX4_moves_124 : decode cX4_moves 124 = .ok (.ishl, 1) := by decide +kernel
theorem dX4_moves_125 : decode cX4_moves 125 = .ok (.ior, 1) := by decide +kernel
theorem dX4_moves_126 : decode cX4_moves 126 = .ok (.istore_n 3, 1) := by decide +kernel
theorem dX4_moves_127 : decode cX4_moves 127 = .ok (.iinc 4 1, 3) := by decide +kernel
theorem dX4_moves_130 : decode cX4_moves 130 = .ok (.goto (-39), 3) := by decide +kernel
theorem dX4_moves_133 : decode cX4_moves 133 = .ok (.iload_n 3, 1) := by decide +kernel
theorem dX4_moves_134 : decode cX4_moves 134 = .ok (.ireturn, 1) := by decide +kernel
theorem dX4_without_0 : decode cX4_without 0 = .ok (.aload_n 0, 1) := by decide +kernel
theorem dX4_without_1 : decode cX4_without 1 = .ok (.iload_n 1, 1) := by decide +kernel
theorem dX4_without_2 : decode cX4_without 2 = .ok (.invokevirtual 150, 3) := by decide +kernel
theorem dX4_without_5 : decode cX4_without 5 = .ok (.ifCond .eq 10, 3) := by decide +kernel
theorem dX4_without_8 : decode cX4_without 8 = .ok (.iload_n 2, 1) := by decide +kernel
theorem dX4_without_9 : decode cX4_without 9 = .ok (.invokestatic 57, 3) := by decide +kernel
theorem dX4_without_12 : decode cX4_without 12 = .ok (.ifCond .ne 10, 3) := by decide +kernel
theorem dX4_without_15 : decode cX4_without 15 = .ok (.aload_n 0, 1) := by decide +kernel
theorem dX4_without_16 : decode cX4_without 16 = .ok (.ldc 65, 2) := by decide +kernel
theorem dX4_without_18 : decode cX4_without 18 = .ok (.invokevirtual 66, 3) := by decide +kernel
theorem dX4_without_21 : decode cX4_without 21 = .ok (.ireturn, 1) := by decide +kernel
theorem dX4_without_22 : decode cX4_without 22 = .ok (.aload_n 0, 1) := by decide +kernel
theorem dX4_without_23 : decode cX4_without 23 = .ok (.iload_n 1, 1) := by decide +kernel
theorem dX4_without_24 : decode cX4_without 24 = .ok (.invokevirtual 162, 3) := by decide +kernel
theorem dX4_without_27 : decode cX4_without 27 = .ok (.aload_n 0, 1) := by decide +kernel
theorem dX4_without_28 : decode cX4_without 28 = .ok (.getfield 25, 3) := by decide +kernel
theorem dX4_without_31 : decode cX4_without 31 = .ok (.iload_n 2, 1) := by decide +kernel
theorem dX4_without_32 : decode cX4_without 32 = .ok (.invokevirtual 189, 3) := by decide +kernel
theorem dX4_without_35 : decode cX4_without 35 = .ok (.aload_n 0, 1) := by decide +kernel
theorem dX4_without_36 : decode cX4_without 36 = .ok (.getfield 25, 3) := by decide +kernel
theorem dX4_without_39 : decode cX4_without 39 = .ok (.aload_n 0, 1) := by decide +kernel
theorem dX4_without_40 : decode cX4_without 40 = .ok (.getfield 12, 3) := by decide +kernel
theorem dX4_without_43 : decode cX4_without 43 = .ok (.getfield 153, 3) := by decide +kernel
theorem dX4_without_46 : decode cX4_without 46 = .ok (.iload_n 1, 1) := by decide +kernel
theorem dX4_without_47 : decode cX4_without 47 = .ok (.iaload, 1) := by decide +kernel
theorem dX4_without_48 : decode cX4_without 48 = .ok (.aload_n 0, 1) := by decide +kernel
theorem dX4_without_49 : decode cX4_without 49 = .ok (.getfield 12, 3) := by decide +kernel
theorem dX4_without_52 : decode cX4_without 52 = .ok (.getfield 156, 3) := by decide +kernel
theorem dX4_without_55 : decode cX4_without 55 = .ok (.iload_n 1, 1) := by decide +kernel
theorem dX4_without_56 : decode cX4_without 56 = .ok (.iaload, 1) := by decide +kernel
theorem dX4_without_57 : decode cX4_without 57 = .ok (.aload_n 0, 1) := by decide +kernel
theorem dX4_without_58 : decode cX4_without 58 = .ok (.getfield 46, 3) := by decide +kernel
theorem dX4_without_61 : decode cX4_without 61 = .ok (.invokevirtual 185, 3) := by decide +kernel
theorem dX4_without_64 : decode cX4_without 64 = .ok (.iconst (-1), 1) := by decide +kernel
theorem dX4_without_65 : decode cX4_without 65 = .ok (.istore_n 3, 1) := by decide +kernel
theorem dX4_without_66 : decode cX4_without 66 = .ok (.iconst 0, 1) := by decide +kernel
theorem dX4_without_67 : decode cX4_without 67 = .ok (.istore 4, 2) := by decide +kernel
theorem dX4_without_69 : decode cX4_without 69 = .ok (.iconst 0, 1) := by decide +kernel
theorem dX4_without_70 : decode cX4_without 70 = .ok (.istore 5, 2) := by decide +kernel
theorem dX4_without_72 : decode cX4_without 72 = .ok (.iload 5, 2) := by decide +kernel
theorem dX4_without_74 : decode cX4_without 74 = .ok (.aload_n 0, 1) := by decide +kernel
theorem dX4_without_75 : decode cX4_without 75 = .ok (.getfield 12, 3) := by decide +kernel
theorem dX4_without_78 : decode cX4_without 78 = .ok (.getfield 80, 3) := by decide +kernel
theorem dX4_without_81 : decode cX4_without 81 = .ok (.if_icmp .ge 49, 3) := by decide +kernel
theorem dX4_without_84 : decode cX4_without 84 = .ok (.aload_n 0, 1) := by decide +kernel
theorem dX4_without_85 : decode cX4_without 85 = .ok (.getfield 46, 3) := by decide +kernel
theorem dX4_without_88 : decode cX4_without 88 = .ok (.iload 5, 2) := by decide +kernel
theorem dX4_without_90 : decode cX4_without 90 = .ok (.iaload, 1) := by decide +kernel
theorem dX4_without_91 : decode cX4_without 91 = .ok (.aload_n 0, 1) := by decide +kernel
theorem dX4_without_92 : decode cX4_without 92 = .ok (.getfield 42, 3) := by decide +kernel
theorem dX4_without_95 : decode cX4_without 95 = .ok (.iload 5, 2) := by decide +kernel
theorem dX4_without_97 : decode cX4_without 97 = .ok (.iaload, 1) := by decide +kernel
theorem dX4_without_98 : decode cX4_without 98 = .ok (.isub, 1) := by decide +kernel
theorem dX4_without_99 : decode cX4_without 99 = .ok (.iload 4, 2) := by decide +kernel
theorem dX4_without_101 : decode cX4_without 101 = .ok (.if_icmp .le 23, 3) := by decide +kernel
theorem dX4_without_104 : decode cX4_without 104 = .ok (.aload_n 0, 1) := by decide +kernel
theorem dX4_without_105 : decode cX4_without 105 = .ok (.getfield 46, 3) := by decide +kernel
theorem dX4_without_108 : decode cX4_without 108 = .ok (.iload 5, 2) := by decide +kernel
theorem dX4_without_110 : decode cX4_without 110 = .ok (.iaload, 1) := by decide +kernel
theorem dX4_without_111 : decode cX4_without 111 = .ok (.aload_n 0, 1) := by decide +kernel
theorem dX4_without_112 : decode cX4_without 112 = .ok (.getfield 42, 3) := by decide +kernel
theorem dX4_without_115 : decode cX4_without 115 = .ok (.iload 5, 2) := by decide +kernel
theorem dX4_without_117 : decode cX4_without 117 = .ok (.iaload, 1) := by decide +kernel
theorem dX4_without_118 : decode cX4_without 118 = .ok (.isub, 1) := by decide +kernel
theorem dX4_without_119 : decode cX4_without 119 = .ok (.istore 4, 2) := by decide +kernel
theorem dX4_without_121 : decode cX4_without 121 = .ok (.iload 5, 2) := by decide +kernel
theorem dX4_without_123 : decode cX4_without 123 = .ok (.istore_n 3, 1) := by decide +kernel
theorem dX4_without_124 : decode cX4_without 124 = .ok (.iinc 5 1, 3) := by decide +kernel
theorem dX4_without_127 : decode cX4_without 127 = .ok (.goto (-55), 3) := by decide +kernel
theorem dX4_without_130 : decode cX4_without 130 = .ok (.iload_n 3, 1) := by decide +kernel
theorem dX4_without_131 : decode cX4_without 131 = .ok (.ifCond .ge 12, 3) := by decide +kernel
theorem dX4_without_134 : decode cX4_without 134 = .ok (.aload_n 0, 1) := by decide +kernel
theorem dX4_without_135 : decode cX4_without 135 = .ok (.ldc 111, 2) := by decide +kernel
theorem dX4_without_137 : decode cX4_without 137 = .ok (.invokevirtual 66, 3) := by decide +kernel
theorem dX4_without_140 : decode cX4_without 140 = .ok (.goto 4, 3) := by decide +kernel
theorem dX4_without_143 : decode cX4_without 143 = .ok (.iload_n 3, 1) := by decide +kernel
theorem dX4_without_144 : decode cX4_without 144 = .ok (.ireturn, 1) := by decide +kernel
theorem dX4_pass_0 : decode cX4_pass 0 = .ok (.aload_n 0, 1) := by decide +kernel
theorem dX4_pass_1 : decode cX4_pass 1 = .ok (.iload_n 1, 1) := by decide +kernel
theorem dX4_pass_2 : decode cX4_pass 2 = .ok (.invokevirtual 150, 3) := by decide +kernel
theorem dX4_pass_5 : decode cX4_pass 5 = .ok (.ifCond .eq 10, 3) := by decide +kernel
theorem dX4_pass_8 : decode cX4_pass 8 = .ok (.iload_n 2, 1) := by decide +kernel
theorem dX4_pass_9 : decode cX4_pass 9 = .ok (.invokestatic 192, 3) := by decide +kernel
theorem dX4_pass_12 : decode cX4_pass 12 = .ok (.ifCond .ne 10, 3) := by decide +kernel
theorem dX4_pass_15 : decode cX4_pass 15 = .ok (.aload_n 0, 1) := by decide +kernel
theorem dX4_pass_16 : decode cX4_pass 16 = .ok (.ldc 65, 2) := by decide +kernel
theorem dX4_pass_18 : decode cX4_pass 18 = .ok (.invokevirtual 66, 3) := by decide +kernel
theorem dX4_pass_21 : decode cX4_pass 21 = .ok (.ireturn, 1) := by decide +kernel
theorem dX4_pass_22 : decode cX4_pass 22 = .ok (.aload_n 0, 1) := by decide +kernel
theorem dX4_pass_23 : decode cX4_pass 23 = .ok (.iload_n 1, 1) := by decide +kernel
theorem dX4_pass_24 : decode cX4_pass 24 = .ok (.invokevirtual 162, 3) := by decide +kernel
theorem dX4_pass_27 : decode cX4_pass 27 = .ok (.iconst 0, 1) := by decide +kernel
theorem dX4_pass_28 : decode cX4_pass 28 = .ok (.istore_n 3, 1) := by decide +kernel
theorem dX4_pass_29 : decode cX4_pass 29 = .ok (.iconst 0, 1) := by decide +kernel
theorem dX4_pass_30 : decode cX4_pass 30 = .ok (.istore 4, 2) := by decide +kernel
theorem dX4_pass_32 : decode cX4_pass 32 = .ok (.iload 4, 2) := by decide +kernel
theorem dX4_pass_34 : decode cX4_pass 34 = .ok (.aload_n 0, 1) := by decide +kernel
theorem dX4_pass_35 : decode cX4_pass 35 = .ok (.getfield 12, 3) := by decide +kernel
theorem dX4_pass_38 : decode cX4_pass 38 = .ok (.getfield 80, 3) := by decide +kernel
theorem dX4_pass_41 : decode cX4_pass 41 = .ok (.if_icmp .ge 27, 3) := by decide +kernel
theorem dX4_pass_44 : decode cX4_pass 44 = .ok (.aload_n 0, 1) := by decide +kernel
theorem dX4_pass_45 : decode cX4_pass 45 = .ok (.getfield 42, 3) := by decide +kernel
theorem dX4_pass_48 : decode cX4_pass 48 = .ok (.iload 4, 2) := by decide +kernel
theorem dX4_pass_50 : decode cX4_pass 50 = .ok (.iaload, 1) := by decide +kernel
theorem dX4_pass_51 : decode cX4_pass 51 = .ok (.iload_n 2, 1) := by decide +kernel
theorem dX4_pass_52 : decode cX4_pass 52 = .ok (.if_icmp .lt 10, 3) := by decide +kernel
theorem dX4_pass_55 : decode cX4_pass 55 = .ok (.iload_n 3, 1) := by decide +kernel
theorem dX4_pass_56 : decode cX4_pass 56 = .ok (.iconst 1, 1) := by decide +kernel
theorem dX4_pass_57 : decode cX4_pass 57 = .ok (.iload 4, 2) := by decide +kernel
theorem dX4_pass_59 : decode cX4_pass 59 = .ok (.ishl, 1) := by decide +kernel
theorem dX4_pass_60 : decode cX4_pass 60 = .ok (.ior, 1) := by decide +kernel
theorem dX4_pass_61 : decode cX4_pass 61 = .ok (.istore_n 3, 1) := by decide +kernel
theorem dX4_pass_62 : decode cX4_pass 62 = .ok (.iinc 4 1, 3) := by decide +kernel
theorem dX4_pass_65 : decode cX4_pass 65 = .ok (.goto (-33), 3) := by decide +kernel
theorem dX4_pass_68 : decode cX4_pass 68 = .ok (.iload_n 3, 1) := by decide +kernel
theorem dX4_pass_69 : decode cX4_pass 69 = .ok (.ireturn, 1) := by decide +kernel
theorem dX4_line_0 : decode cX4_line 0 = .ok (.aload_n 0, 1) := by decide +kernel
theorem dX4_line_1 : decode cX4_line 1 = .ok (.iload_n 1, 1) := by decide +kernel
theorem dX4_line_2 : decode cX4_line 2 = .ok (.invokevirtual 150, 3) := by decide +kernel
theorem dX4_line_5 : decode cX4_line 5 = .ok (.ifCond .eq 13, 3) := by decide +kernel
theorem dX4_line_8 : decode cX4_line 8 = .ok (.iload_n 2, 1) := by decide +kernel
theorem dX4_line_9 : decode cX4_line 9 = .ok (.iconst 0, 1) := by decide +kernel
theorem dX4_line_10 : decode cX4_line 10 = .ok (.bipush 12, 2) := by decide +kernel
theorem dX4_line_12 : decode cX4_line 12 = .ok (.invokestatic 61, 3) := by decide +kernel
theorem dX4_line_15 : decode cX4_line 15 = .ok (.ifCond .ne 10, 3) := by decide +kernel
theorem dX4_line_18 : decode cX4_line 18 = .ok (.aload_n 0, 1) := by decide +kernel
theorem dX4_line_19 : decode cX4_line 19 = .ok (.ldc 65, 2) := by decide +kernel
theorem dX4_line_21 : decode cX4_line 21 = .ok (.invokevirtual 66, 3) := by decide +kernel
theorem dX4_line_24 : decode cX4_line 24 = .ok (.ireturn, 1) := by decide +kernel
theorem dX4_line_25 : decode cX4_line 25 = .ok (.iload_n 2, 1) := by decide +kernel
theorem dX4_line_26 : decode cX4_line 26 = .ok (.aload_n 0, 1) := by decide +kernel
theorem dX4_line_27 : decode cX4_line 27 = .ok (.getfield 12, 3) := by decide +kernel
theorem dX4_line_30 : decode cX4_line 30 = .ok (.getfield 80, 3) := by decide +kernel
theorem dX4_line_33 : decode cX4_line 33 = .ok (.if_icmp .le 10, 3) := by decide +kernel
theorem dX4_line_36 : decode cX4_line 36 = .ok (.aload_n 0, 1) := by decide +kernel
theorem dX4_line_37 : decode cX4_line 37 = .ok (.ldc 111, 2) := by decide +kernel
theorem dX4_line_39 : decode cX4_line 39 = .ok (.invokevirtual 66, 3) := by decide +kernel
theorem dX4_line_42 : decode cX4_line 42 = .ok (.ireturn, 1) := by decide +kernel
theorem dX4_line_43 : decode cX4_line 43 = .ok (.iload_n 2, 1) := by decide +kernel
theorem dX4_line_44 : decode cX4_line 44 = .ok (.ifCond .ne 7, 3) := by decide +kernel
theorem dX4_line_47 : decode cX4_line 47 = .ok (.sipush 400, 3) := by decide +kernel
theorem dX4_line_50 : decode cX4_line 50 = .ok (.ireturn, 1) := by decide +kernel
theorem dX4_line_51 : decode cX4_line 51 = .ok (.aload_n 0, 1) := by decide +kernel
theorem dX4_line_52 : decode cX4_line 52 = .ok (.iload_n 1, 1) := by decide +kernel
theorem dX4_line_53 : decode cX4_line 53 = .ok (.invokevirtual 162, 3) := by decide +kernel
theorem dX4_line_56 : decode cX4_line 56 = .ok (.sipush 400, 3) := by decide +kernel
theorem dX4_line_59 : decode cX4_line 59 = .ok (.aload_n 0, 1) := by decide +kernel
theorem dX4_line_60 : decode cX4_line 60 = .ok (.iload_n 2, 1) := by decide +kernel
theorem dX4_line_61 : decode cX4_line 61 = .ok (.invokevirtual 169, 3) := by decide +kernel
theorem dX4_line_64 : decode cX4_line 64 = .ok (.invokestatic 195, 3) := by decide +kernel
theorem dX4_line_67 : decode cX4_line 67 = .ok (.ireturn, 1) := by decide +kernel
theorem dX4_heap_0 : decode cX4_heap 0 = .ok (.aload_n 0, 1) := by decide +kernel
theorem dX4_heap_1 : decode cX4_heap 1 = .ok (.iload_n 1, 1) := by decide +kernel
theorem dX4_heap_2 : decode cX4_heap 2 = .ok (.invokevirtual 150, 3) := by decide +kernel
theorem dX4_heap_5 : decode cX4_heap 5 = .ok (.ifCond .eq 10, 3) := by decide +kernel
theorem dX4_heap_8 : decode cX4_heap 8 = .ok (.iload_n 2, 1) := by decide +kernel
theorem dX4_heap_9 : decode cX4_heap 9 = .ok (.invokestatic 192, 3) := by decide +kernel
theorem dX4_heap_12 : decode cX4_heap 12 = .ok (.ifCond .ne 10, 3) := by decide +kernel
theorem dX4_heap_15 : decode cX4_heap 15 = .ok (.aload_n 0, 1) := by decide +kernel
theorem dX4_heap_16 : decode cX4_heap 16 = .ok (.ldc 65, 2) := by decide +kernel
theorem dX4_heap_18 : decode cX4_heap 18 = .ok (.invokevirtual 66, 3) := by decide +kernel
theorem dX4_heap_21 : decode cX4_heap 21 = .ok (.ireturn, 1) := by decide +kernel
theorem dX4_heap_22 : decode cX4_heap 22 = .ok (.aload_n 0, 1) := by decide +kernel
theorem dX4_heap_23 : decode cX4_heap 23 = .ok (.iload_n 1, 1) := by decide +kernel
theorem dX4_heap_24 : decode cX4_heap 24 = .ok (.invokevirtual 162, 3) := by decide +kernel
theorem dX4_heap_27 : decode cX4_heap 27 = .ok (.aload_n 0, 1) := by decide +kernel
theorem dX4_heap_28 : decode cX4_heap 28 = .ok (.iload_n 2, 1) := by decide +kernel
theorem dX4_heap_29 : decode cX4_heap 29 = .ok (.invokevirtual 166, 3) := by decide +kernel
theorem dX4_heap_32 : decode cX4_heap 32 = .ok (.aload_n 0, 1) := by decide +kernel
theorem dX4_heap_33 : decode cX4_heap 33 = .ok (.iload_n 2, 1) := by decide +kernel
theorem dX4_heap_34 : decode cX4_heap 34 = .ok (.iconst 3, 1) := by decide +kernel
theorem dX4_heap_35 : decode cX4_heap 35 = .ok (.iadd, 1) := by decide +kernel
theorem dX4_heap_36 : decode cX4_heap 36 = .ok (.invokevirtual 166, 3) := by decide +kernel
theorem dX4_heap_39 : decode cX4_heap 39 = .ok (.isub, 1) := by decide +kernel
theorem dX4_heap_40 : decode cX4_heap 40 = .ok (.istore_n 3, 1) := by decide +kernel
theorem dX4_heap_41 : decode cX4_heap 41 = .ok (.aload_n 0, 1) := by decide +kernel
theorem dX4_heap_42 : decode cX4_heap 42 = .ok (.iload_n 2, 1) := by decide +kernel
theorem dX4_heap_43 : decode cX4_heap 43 = .ok (.iconst 3, 1) := by decide +kernel
theorem dX4_heap_44 : decode cX4_heap 44 = .ok (.isub, 1) := by decide +kernel
theorem dX4_heap_45 : decode cX4_heap 45 = .ok (.invokevirtual 166, 3) := by decide +kernel
theorem dX4_heap_48 : decode cX4_heap 48 = .ok (.aload_n 0, 1) := by decide +kernel
theorem dX4_heap_49 : decode cX4_heap 49 = .ok (.iload_n 2, 1) := by decide +kernel
theorem dX4_heap_50 : decode cX4_heap 50 = .ok (.invokevirtual 166, 3) := by decide +kernel
theorem dX4_heap_53 : decode cX4_heap 53 = .ok (.isub, 1) := by decide +kernel
theorem dX4_heap_54 : decode cX4_heap 54 = .ok (.istore 4, 2) := by decide +kernel
theorem dX4_heap_56 : decode cX4_heap 56 = .ok (.iload_n 3, 1) := by decide +kernel
theorem dX4_heap_57 : decode cX4_heap 57 = .ok (.iload 4, 2) := by decide +kernel
theorem dX4_heap_59 : decode cX4_heap 59 = .ok (.isub, 1) := by decide +kernel
theorem dX4_heap_60 : decode cX4_heap 60 = .ok (.ireturn, 1) := by decide +kernel
theorem dX4_kindest_0 : decode cX4_kindest 0 = .ok (.iload_n 1, 1) := by decide +kernel
theorem dX4_kindest_1 : decode cX4_kindest 1 = .ok (.invokestatic 192, 3) := by decide +kernel
theorem dX4_kindest_4 : decode cX4_kindest 4 = .ok (.ifCond .ne 10, 3) := by decide +kernel
theorem dX4_kindest_7 : decode cX4_kindest 7 = .ok (.aload_n 0, 1) := by decide +kernel
theorem dX4_kindest_8 : decode cX4_kindest 8 = .ok (.ldc 65, 2) := by decide +kernel
theorem dX4_kindest_10 : decode cX4_kindest 10 = .ok (.invokevirtual 66, 3) := by decide +kernel
theorem dX4_kindest_13 : decode cX4_kindest 13 = .ok (.ireturn, 1) := by decide +kernel
theorem dX4_kindest_14 : decode cX4_kindest 14 = .ok (.aload_n 0, 1) := by decide +kernel
theorem dX4_kindest_15 : decode cX4_kindest 15 = .ok (.getfield 12, 3) := by decide +kernel
theorem dX4_kindest_18 : decode cX4_kindest 18 = .ok (.getfield 144, 3) := by decide +kernel
theorem dX4_kindest_21 : decode cX4_kindest 21 = .ok (.ifCond .ne 10, 3) := by decide +kernel
theorem dX4_kindest_24 : decode cX4_kindest 24 = .ok (.aload_n 0, 1) := by decide +kernel
theorem dX4_kindest_25 : decode cX4_kindest 25 = .ok (.ldc 111, 2) := by decide +kernel
theorem dX4_kindest_27 : decode cX4_kindest 27 = .ok (.invokevirtual 66, 3) := by decide +kernel
theorem dX4_kindest_30 : decode cX4_kindest 30 = .ok (.ireturn, 1) := by decide +kernel
theorem dX4_kindest_31 : decode cX4_kindest 31 = .ok (.iconst 0, 1) := by decide +kernel
theorem dX4_kindest_32 : decode cX4_kindest 32 = .ok (.istore_n 2, 1) := by decide +kernel
theorem dX4_kindest_33 : decode cX4_kindest 33 = .ok (.iconst (-1), 1) := by decide +kernel
theorem dX4_kindest_34 : decode cX4_kindest 34 = .ok (.istore_n 3, 1) := by decide +kernel
theorem dX4_kindest_35 : decode cX4_kindest 35 = .ok (.iconst 0, 1) := by decide +kernel
theorem dX4_kindest_36 : decode cX4_kindest 36 = .ok (.istore 4, 2) := by decide +kernel
theorem dX4_kindest_38 : decode cX4_kindest 38 = .ok (.iload 4, 2) := by decide +kernel
theorem dX4_kindest_40 : decode cX4_kindest 40 = .ok (.aload_n 0, 1) := by decide +kernel
theorem dX4_kindest_41 : decode cX4_kindest 41 = .ok (.getfield 12, 3) := by decide +kernel
theorem dX4_kindest_44 : decode cX4_kindest 44 = .ok (.getfield 144, 3) := by decide +kernel
theorem dX4_kindest_47 : decode cX4_kindest 47 = .ok (.if_icmp .ge 34, 3) := by decide +kernel
theorem dX4_kindest_50 : decode cX4_kindest 50 = .ok (.aload_n 0, 1) := by decide +kernel
theorem dX4_kindest_51 : decode cX4_kindest 51 = .ok (.iload 4, 2) := by decide +kernel
theorem dX4_kindest_53 : decode cX4_kindest 53 = .ok (.invokevirtual 162, 3) := by decide +kernel
theorem dX4_kindest_56 : decode cX4_kindest 56 = .ok (.aload_n 0, 1) := by decide +kernel
theorem dX4_kindest_57 : decode cX4_kindest 57 = .ok (.iload_n 1, 1) := by decide +kernel
theorem dX4_kindest_58 : decode cX4_kindest 58 = .ok (.invokevirtual 166, 3) := by decide +kernel
theorem dX4_kindest_61 : decode cX4_kindest 61 = .ok (.istore 5, 2) := by decide +kernel
theorem dX4_kindest_63 : decode cX4_kindest 63 = .ok (.iload 5, 2) := by decide +kernel
theorem dX4_kindest_65 : decode cX4_kindest 65 = .ok (.iload_n 3, 1) := by decide +kernel
theorem dX4_kindest_66 : decode cX4_kindest 66 = .ok (.if_icmp .le 9, 3) := by decide +kernel
theorem dX4_kindest_69 : decode cX4_kindest 69 = .ok (.iload 5, 2) := by decide +kernel
theorem dX4_kindest_71 : decode cX4_kindest 71 = .ok (.istore_n 3, 1) := by decide +kernel
theorem dX4_kindest_72 : decode cX4_kindest 72 = .ok (.iload 4, 2) := by decide +kernel
theorem dX4_kindest_74 : decode cX4_kindest 74 = .ok (.istore_n 2, 1) := by decide +kernel
theorem dX4_kindest_75 : decode cX4_kindest 75 = .ok (.iinc 4 1, 3) := by decide +kernel
theorem dX4_kindest_78 : decode cX4_kindest 78 = .ok (.goto (-40), 3) := by decide +kernel
theorem dX4_kindest_81 : decode cX4_kindest 81 = .ok (.iload_n 2, 1) := by decide +kernel
theorem dX4_kindest_82 : decode cX4_kindest 82 = .ok (.ireturn, 1) := by decide +kernel
theorem dX4_byFor_0 : decode cX4_byFor 0 = .ok (.aload_n 0, 1) := by decide +kernel
theorem dX4_byFor_1 : decode cX4_byFor 1 = .ok (.iload_n 1, 1) := by decide +kernel
theorem dX4_byFor_2 : decode cX4_byFor 2 = .ok (.invokevirtual 150, 3) := by decide +kernel
theorem dX4_byFor_5 : decode cX4_byFor 5 = .ok (.ifCond .eq 10, 3) := by decide +kernel
theorem dX4_byFor_8 : decode cX4_byFor 8 = .ok (.iload_n 2, 1) := by decide +kernel
theorem dX4_byFor_9 : decode cX4_byFor 9 = .ok (.invokestatic 192, 3) := by decide +kernel
theorem dX4_byFor_12 : decode cX4_byFor 12 = .ok (.ifCond .ne 10, 3) := by decide +kernel
theorem dX4_byFor_15 : decode cX4_byFor 15 = .ok (.aload_n 0, 1) := by decide +kernel
theorem dX4_byFor_16 : decode cX4_byFor 16 = .ok (.ldc 65, 2) := by decide +kernel
theorem dX4_byFor_18 : decode cX4_byFor 18 = .ok (.invokevirtual 66, 3) := by decide +kernel
theorem dX4_byFor_21 : decode cX4_byFor 21 = .ok (.ireturn, 1) := by decide +kernel
theorem dX4_byFor_22 : decode cX4_byFor 22 = .ok (.aload_n 0, 1) := by decide +kernel
theorem dX4_byFor_23 : decode cX4_byFor 23 = .ok (.getfield 25, 3) := by decide +kernel
theorem dX4_byFor_26 : decode cX4_byFor 26 = .ok (.aload_n 0, 1) := by decide +kernel
theorem dX4_byFor_27 : decode cX4_byFor 27 = .ok (.getfield 12, 3) := by decide +kernel
theorem dX4_byFor_30 : decode cX4_byFor 30 = .ok (.invokevirtual 112, 3) := by decide +kernel
theorem dX4_byFor_33 : decode cX4_byFor 33 = .ok (.iconst 0, 1) := by decide +kernel
theorem dX4_byFor_34 : decode cX4_byFor 34 = .ok (.istore_n 3, 1) := by decide +kernel
theorem dX4_byFor_35 : decode cX4_byFor 35 = .ok (.iload_n 3, 1) := by decide +kernel
theorem dX4_byFor_36 : decode cX4_byFor 36 = .ok (.bipush 100, 2) := by decide +kernel
theorem dX4_byFor_38 : decode cX4_byFor 38 = .ok (.if_icmp .gt 47, 3) := by decide +kernel
theorem dX4_byFor_41 : decode cX4_byFor 41 = .ok (.aload_n 0, 1) := by decide +kernel
theorem dX4_byFor_42 : decode cX4_byFor 42 = .ok (.getfield 25, 3) := by decide +kernel
theorem dX4_byFor_45 : decode cX4_byFor 45 = .ok (.aload_n 0, 1) := by decide +kernel
theorem dX4_byFor_46 : decode cX4_byFor 46 = .ok (.getfield 12, 3) := by decide +kernel
theorem dX4_byFor_49 : decode cX4_byFor 49 = .ok (.getfield 153, 3) := by decide +kernel
theorem dX4_byFor_52 : decode cX4_byFor 52 = .ok (.iload_n 1, 1) := by decide +kernel
theorem dX4_byFor_53 : decode cX4_byFor 53 = .ok (.iaload, 1) := by decide +kernel
theorem dX4_byFor_54 : decode cX4_byFor 54 = .ok (.iload_n 3, 1) := by decide +kernel
theorem dX4_byFor_55 : decode cX4_byFor 55 = .ok (.aload_n 0, 1) := by decide +kernel
theorem dX4_byFor_56 : decode cX4_byFor 56 = .ok (.getfield 42, 3) := by decide +kernel
theorem dX4_byFor_59 : decode cX4_byFor 59 = .ok (.invokevirtual 185, 3) := by decide +kernel
theorem dX4_byFor_62 : decode cX4_byFor 62 = .ok (.aload_n 0, 1) := by decide +kernel
theorem dX4_byFor_63 : decode cX4_byFor 63 = .ok (.iload_n 2, 1) := by decide +kernel
theorem dX4_byFor_64 : decode cX4_byFor 64 = .ok (.invokevirtual 166, 3) := by decide +kernel
theorem dX4_byFor_67 : decode cX4_byFor 67 = .ok (.aload_n 0, 1) := by decide +kernel
theorem dX4_byFor_68 : decode cX4_byFor 68 = .ok (.getfield 12, 3) := by decide +kernel
theorem dX4_byFor_71 : decode cX4_byFor 71 = .ok (.getfield 80, 3) := by decide +kernel
theorem dX4_byFor_74 : decode cX4_byFor 74 = .ok (.if_icmp .ne 5, 3) := by decide +kernel
theorem dX4_byFor_77 : decode cX4_byFor 77 = .ok (.iload_n 3, 1) := by decide +kernel
theorem dX4_byFor_78 : decode cX4_byFor 78 = .ok (.ireturn, 1) := by decide +kernel
theorem dX4_byFor_79 : decode cX4_byFor 79 = .ok (.iinc 3 1, 3) := by decide +kernel
theorem dX4_byFor_82 : decode cX4_byFor 82 = .ok (.goto (-47), 3) := by decide +kernel
theorem dX4_byFor_85 : decode cX4_byFor 85 = .ok (.aload_n 0, 1) := by decide +kernel
theorem dX4_byFor_86 : decode cX4_byFor 86 = .ok (.ldc 111, 2) := by decide +kernel
theorem dX4_byFor_88 : decode cX4_byFor 88 = .ok (.invokevirtual 66, 3) := by decide +kernel
theorem dX4_byFor_91 : decode cX4_byFor 91 = .ok (.ireturn, 1) := by decide +kernel
theorem dX4_letters_0 : decode cX4_letters 0 = .ok (.aload_n 0, 1) := by decide +kernel
theorem dX4_letters_1 : decode cX4_letters 1 = .ok (.iload_n 1, 1) := by decide +kernel
theorem dX4_letters_2 : decode cX4_letters 2 = .ok (.invokevirtual 150, 3) := by decide +kernel
theorem dX4_letters_5 : decode cX4_letters 5 = .ok (.ifCond .eq 22, 3) := by decide +kernel
theorem dX4_letters_8 : decode cX4_letters 8 = .ok (.iload_n 2, 1) := by decide +kernel
theorem dX4_letters_9 : decode cX4_letters 9 = .ok (.invokestatic 192, 3) := by decide +kernel
theorem dX4_letters_12 : decode cX4_letters 12 = .ok (.ifCond .eq 15, 3) := by decide +kernel
theorem dX4_letters_15 : decode cX4_letters 15 = .ok (.iload_n 3, 1) := by decide +kernel
theorem dX4_letters_16 : decode cX4_letters 16 = .ok (.invokestatic 192, 3) := by decide +kernel
theorem dX4_letters_19 : decode cX4_letters 19 = .ok (.ifCond .eq 8, 3) := by decide +kernel
theorem dX4_letters_22 : decode cX4_letters 22 = .ok (.iload_n 2, 1) := by decide +kernel
theorem dX4_letters_23 : decode cX4_letters 23 = .ok (.iload_n 3, 1) := by decide +kernel
theorem dX4_letters_24 : decode cX4_letters 24 = .ok (.if_icmp .le 10, 3) := by decide +kernel
theorem dX4_letters_27 : decode cX4_letters 27 = .ok (.aload_n 0, 1) := by decide +kernel
theorem dX4_letters_28 : decode cX4_letters 28 = .ok (.ldc 65, 2) := by decide +kernel
theorem dX4_letters_30 : decode cX4_letters 30 = .ok (.invokevirtual 66, 3) := by decide +kernel
theorem dX4_letters_33 : decode cX4_letters 33 = .ok (.ireturn, 1) := by decide +kernel
theorem dX4_letters_34 : decode cX4_letters 34 = .ok (.aload_n 0, 1) := by decide +kernel
theorem dX4_letters_35 : decode cX4_letters 35 = .ok (.iload_n 1, 1) := by decide +kernel
theorem dX4_letters_36 : decode cX4_letters 36 = .ok (.invokevirtual 162, 3) := by decide +kernel
theorem dX4_letters_39 : decode cX4_letters 39 = .ok (.aload_n 0, 1) := by decide +kernel
theorem dX4_letters_40 : decode cX4_letters 40 = .ok (.iload_n 2, 1) := by decide +kernel
theorem dX4_letters_41 : decode cX4_letters 41 = .ok (.invokevirtual 166, 3) := by decide +kernel
theorem dX4_letters_44 : decode cX4_letters 44 = .ok (.aload_n 0, 1) := by decide +kernel
theorem dX4_letters_45 : decode cX4_letters 45 = .ok (.iload_n 3, 1) := by decide +kernel
theorem dX4_letters_46 : decode cX4_letters 46 = .ok (.iconst 1, 1) := by decide +kernel
theorem dX4_letters_47 : decode cX4_letters 47 = .ok (.iadd, 1) := by decide +kernel
theorem dX4_letters_48 : decode cX4_letters 48 = .ok (.invokevirtual 166, 3) := by decide +kernel
theorem dX4_letters_51 : decode cX4_letters 51 = .ok (.isub, 1) := by decide +kernel
theorem dX4_letters_52 : decode cX4_letters 52 = .ok (.ireturn, 1) := by decide +kernel
theorem dX4_lean_0 : decode cX4_lean 0 = .ok (.iconst 0, 1) := by decide +kernel
theorem dX4_lean_1 : decode cX4_lean 1 = .ok (.istore_n 1, 1) := by decide +kernel
theorem dX4_lean_2 : decode cX4_lean 2 = .ok (.iconst 0, 1) := by decide +kernel
theorem dX4_lean_3 : decode cX4_lean 3 = .ok (.istore_n 2, 1) := by decide +kernel
theorem dX4_lean_4 : decode cX4_lean 4 = .ok (.iload_n 2, 1) := by decide +kernel
theorem dX4_lean_5 : decode cX4_lean 5 = .ok (.aload_n 0, 1) := by decide +kernel
theorem dX4_lean_6 : decode cX4_lean 6 = .ok (.getfield 12, 3) := by decide +kernel
theorem dX4_lean_9 : decode cX4_lean 9 = .ok (.getfield 80, 3) := by decide +kernel
theorem dX4_lean_12 : decode cX4_lean 12 = .ok (.if_icmp .ge 35, 3) := by decide +kernel
theorem dX4_lean_15 : decode cX4_lean 15 = .ok (.iconst 0, 1) := by decide +kernel
theorem dX4_lean_16 : decode cX4_lean 16 = .ok (.istore_n 3, 1) := by decide +kernel
theorem dX4_lean_17 : decode cX4_lean 17 = .ok (.iload_n 3, 1) := by decide +kernel
theorem dX4_lean_18 : decode cX4_lean 18 = .ok (.bipush 8, 2) := by decide +kernel
theorem dX4_lean_20 : decode cX4_lean 20 = .ok (.if_icmp .ge 21, 3) := by decide +kernel
theorem dX4_lean_23 : decode cX4_lean 23 = .ok (.iload_n 1, 1) := by decide +kernel
theorem dX4_lean_24 : decode cX4_lean 24 = .ok (.aload_n 0, 1) := by decide +kernel
theorem dX4_lean_25 : decode cX4_lean 25 = .ok (.getfield 12, 3) := by decide +kernel
theorem dX4_lean_28 : decode cX4_lean 28 = .ok (.iload_n 2, 1) := by decide +kernel
theorem dX4_lean_29 : decode cX4_lean 29 = .ok (.iload_n 3, 1) := by decide +kernel
theorem dX4_lean_30 : decode cX4_lean 30 = .ok (.invokevirtual 200, 3) := by decide +kernel
theorem dX4_lean_33 : decode cX4_lean 33 = .ok (.iadd, 1) := by decide +kernel
theorem dX4_lean_34 : decode cX4_lean 34 = .ok (.istore_n 1, 1) := by decide +kernel
theorem dX4_lean_35 : decode cX4_lean 35 = .ok (.iinc 3 1, 3) := by decide +kernel
theorem dX4_lean_38 : decode cX4_lean 38 = .ok (.goto (-21), 3) := by decide +kernel
theorem dX4_lean_41 : decode cX4_lean 41 = .ok (.iinc 2 1, 3) := by decide +kernel
theorem dX4_lean_44 : decode cX4_lean 44 = .ok (.goto (-40), 3) := by decide +kernel
theorem dX4_lean_47 : decode cX4_lean 47 = .ok (.aload_n 0, 1) := by decide +kernel
theorem dX4_lean_48 : decode cX4_lean 48 = .ok (.getfield 12, 3) := by decide +kernel
theorem dX4_lean_51 : decode cX4_lean 51 = .ok (.getfield 80, 3) := by decide +kernel
theorem dX4_lean_54 : decode cX4_lean 54 = .ok (.ifCond .le 18, 3) := by decide +kernel
theorem dX4_lean_57 : decode cX4_lean 57 = .ok (.bipush 100, 2) := by decide +kernel
theorem dX4_lean_59 : decode cX4_lean 59 = .ok (.iload_n 1, 1) := by decide +kernel
theorem dX4_lean_60 : decode cX4_lean 60 = .ok (.imul, 1) := by decide +kernel
theorem dX4_lean_61 : decode cX4_lean 61 = .ok (.aload_n 0, 1) := by decide +kernel
theorem dX4_lean_62 : decode cX4_lean 62 = .ok (.getfield 12, 3) := by decide +kernel
theorem dX4_lean_65 : decode cX4_lean 65 = .ok (.getfield 80, 3) := by decide +kernel
theorem dX4_lean_68 : decode cX4_lean 68 = .ok (.idiv, 1) := by decide +kernel
theorem dX4_lean_69 : decode cX4_lean 69 = .ok (.goto 4, 3) := by decide +kernel
theorem dX4_lean_72 : decode cX4_lean 72 = .ok (.iconst 0, 1) := by decide +kernel
theorem dX4_lean_73 : decode cX4_lean 73 = .ok (.ireturn, 1) := by decide +kernel
theorem dX4_right_0 : decode cX4_right 0 = .ok (.iload_n 1, 1) := by decide +kernel
theorem dX4_right_1 : decode cX4_right 1 = .ok (.iconst 1, 1) := by decide +kernel
theorem dX4_right_2 : decode cX4_right 2 = .ok (.bipush 40, 2) := by decide +kernel
theorem dX4_right_4 : decode cX4_right 4 = .ok (.invokestatic 61, 3) := by decide +kernel
theorem dX4_right_7 : decode cX4_right 7 = .ok (.ifCond .ne 10, 3) := by decide +kernel
theorem dX4_right_10 : decode cX4_right 10 = .ok (.aload_n 0, 1) := by decide +kernel
theorem dX4_right_11 : decode cX4_right 11 = .ok (.ldc 65, 2) := by decide +kernel
theorem dX4_right_13 : decode cX4_right 13 = .ok (.invokevirtual 66, 3) := by decide +kernel
theorem dX4_right_16 : decode cX4_right 16 = .ok (.ireturn, 1) := by decide +kernel
theorem dX4_right_17 : decode cX4_right 17 = .ok (.iconst 0, 1) := by decide +kernel
theorem dX4_right_18 : decode cX4_right 18 = .ok (.istore_n 2, 1) := by decide +kernel
theorem dX4_right_19 : decode cX4_right 19 = .ok (.iconst 0, 1) := by decide +kernel
theorem dX4_right_20 : decode cX4_right 20 = .ok (.istore_n 3, 1) := by decide +kernel
theorem dX4_right_21 : decode cX4_right 21 = .ok (.iload_n 3, 1) := by decide +kernel
theorem dX4_right_22 : decode cX4_right 22 = .ok (.aload_n 0, 1) := by decide +kernel
theorem dX4_right_23 : decode cX4_right 23 = .ok (.getfield 12, 3) := by decide +kernel
theorem dX4_right_26 : decode cX4_right 26 = .ok (.getfield 80, 3) := by decide +kernel
theorem dX4_right_29 : decode cX4_right 29 = .ok (.if_icmp .ge 75, 3) := by decide +kernel
theorem dX4_right_32 : decode cX4_right 32 = .ok (.iconst 0, 1) := by decide +kernel
theorem dX4_right_33 : decode cX4_right 33 = .ok (.istore 4, 2) := by decide +kernel
theorem dX4_right_35 : decode cX4_right 35 = .ok (.iload 4, 2) := by decide +kernel
theorem dX4_right_37 : decode cX4_right 37 = .ok (.bipush 8, 2) := by decide +kernel
theorem dX4_right_39 : decode cX4_right 39 = .ok (.if_icmp .ge 59, 3) := by decide +kernel
theorem dX4_right_42 : decode cX4_right 42 = .ok (.aload_n 0, 1) := by decide +kernel
theorem dX4_right_43 : decode cX4_right 43 = .ok (.getfield 12, 3) := by decide +kernel
theorem dX4_right_46 : decode cX4_right 46 = .ok (.iload_n 3, 1) := by decide +kernel
theorem dX4_right_47 : decode cX4_right 47 = .ok (.iload 4, 2) := by decide +kernel
theorem dX4_right_49 : decode cX4_right 49 = .ok (.invokevirtual 200, 3) := by decide +kernel
theorem dX4_right_52 : decode cX4_right 52 = .ok (.invokestatic 203, 3) := by decide +kernel
theorem dX4_right_55 : decode cX4_right 55 = .ok (.iload_n 1, 1) := by decide +kernel
theorem dX4_right_56 : decode cX4_right 56 = .ok (.if_icmp .lt 36, 3) := by decide +kernel
theorem dX4_right_59 : decode cX4_right 59 = .ok (.aload_n 0, 1) := by decide +kernel
theorem dX4_right_60 : decode cX4_right 60 = .ok (.getfield 12, 3) := by decide +kernel
theorem dX4_right_63 : decode cX4_right 63 = .ok (.getfield 98, 3) := by decide +kernel
theorem dX4_right_66 : decode cX4_right 66 = .ok (.iload_n 3, 1) := by decide +kernel
theorem dX4_right_67 : decode cX4_right 67 = .ok (.iload 4, 2) := by decide +kernel
theorem dX4_right_69 : decode cX4_right 69 = .ok (.iconst 1, 1) := by decide +kernel
theorem dX4_right_70 : decode cX4_right 70 = .ok (.invokestatic 94, 3) := by decide +kernel
theorem dX4_right_73 : decode cX4_right 73 = .ok (.aload_n 0, 1) := by decide +kernel
theorem dX4_right_74 : decode cX4_right 74 = .ok (.getfield 12, 3) := by decide +kernel
theorem dX4_right_77 : decode cX4_right 77 = .ok (.getfield 98, 3) := by decide +kernel
theorem dX4_right_80 : decode cX4_right 80 = .ok (.iload_n 3, 1) := by decide +kernel
theorem dX4_right_81 : decode cX4_right 81 = .ok (.iload 4, 2) := by decide +kernel
theorem dX4_right_83 : decode cX4_right 83 = .ok (.iconst 0, 1) := by decide +kernel
theorem dX4_right_84 : decode cX4_right 84 = .ok (.invokestatic 94, 3) := by decide +kernel
theorem dX4_right_87 : decode cX4_right 87 = .ok (.iaload, 1) := by decide +kernel
theorem dX4_right_88 : decode cX4_right 88 = .ok (.iastore, 1) := by decide +kernel
theorem dX4_right_89 : decode cX4_right 89 = .ok (.iinc 2 1, 3) := by decide +kernel
theorem dX4_right_92 : decode cX4_right 92 = .ok (.iinc 4 1, 3) := by decide +kernel
theorem dX4_right_95 : decode cX4_right 95 = .ok (.goto (-60), 3) := by decide +kernel
theorem dX4_right_98 : decode cX4_right 98 = .ok (.iinc 3 1, 3) := by decide +kernel
theorem dX4_right_101 : decode cX4_right 101 = .ok (.goto (-80), 3) := by decide +kernel
theorem dX4_right_104 : decode cX4_right 104 = .ok (.iload_n 2, 1) := by decide +kernel
theorem dX4_right_105 : decode cX4_right 105 = .ok (.ireturn, 1) := by decide +kernel
theorem dX4_unlike_0 : decode cX4_unlike 0 = .ok (.iload_n 1, 1) := by decide +kernel
theorem dX4_unlike_1 : decode cX4_unlike 1 = .ok (.iconst 0, 1) := by decide +kernel
theorem dX4_unlike_2 : decode cX4_unlike 2 = .ok (.iconst 1, 1) := by decide +kernel
theorem dX4_unlike_3 : decode cX4_unlike 3 = .ok (.invokestatic 61, 3) := by decide +kernel
theorem dX4_unlike_6 : decode cX4_unlike 6 = .ok (.ifCond .ne 10, 3) := by decide +kernel
theorem dX4_unlike_9 : decode cX4_unlike 9 = .ok (.aload_n 0, 1) := by decide +kernel
theorem dX4_unlike_10 : decode cX4_unlike 10 = .ok (.ldc 65, 2) := by decide +kernel
theorem dX4_unlike_12 : decode cX4_unlike 12 = .ok (.invokevirtual 66, 3) := by decide +kernel
theorem dX4_unlike_15 : decode cX4_unlike 15 = .ok (.ireturn, 1) := by decide +kernel
theorem dX4_unlike_16 : decode cX4_unlike 16 = .ok (.aload_n 0, 1) := by decide +kernel
theorem dX4_unlike_17 : decode cX4_unlike 17 = .ok (.getfield 12, 3) := by decide +kernel
theorem dX4_unlike_20 : decode cX4_unlike 20 = .ok (.getfield 80, 3) := by decide +kernel
theorem dX4_unlike_23 : decode cX4_unlike 23 = .ok (.ifCond .ne 10, 3) := by decide +kernel
theorem dX4_unlike_26 : decode cX4_unlike 26 = .ok (.aload_n 0, 1) := by decide +kernel
theorem dX4_unlike_27 : decode cX4_unlike 27 = .ok (.ldc 111, 2) := by decide +kernel
theorem dX4_unlike_29 : decode cX4_unlike 29 = .ok (.invokevirtual 66, 3) := by decide +kernel
theorem dX4_unlike_32 : decode cX4_unlike 32 = .ok (.ireturn, 1) := by decide +kernel
theorem dX4_unlike_33 : decode cX4_unlike 33 = .ok (.iconst 0, 1) := by decide +kernel
theorem dX4_unlike_34 : decode cX4_unlike 34 = .ok (.istore_n 2, 1) := by decide +kernel
theorem dX4_unlike_35 : decode cX4_unlike 35 = .ok (.iconst (-1), 1) := by decide +kernel
theorem dX4_unlike_36 : decode cX4_unlike 36 = .ok (.istore_n 3, 1) := by decide +kernel
theorem dX4_unlike_37 : decode cX4_unlike 37 = .ok (.iconst 0, 1) := by decide +kernel
theorem dX4_unlike_38 : decode cX4_unlike 38 = .ok (.istore 4, 2) := by decide +kernel
theorem dX4_unlike_40 : decode cX4_unlike 40 = .ok (.iload 4, 2) := by decide +kernel
theorem dX4_unlike_42 : decode cX4_unlike 42 = .ok (.aload_n 0, 1) := by decide +kernel
theorem dX4_unlike_43 : decode cX4_unlike 43 = .ok (.getfield 12, 3) := by decide +kernel
theorem dX4_unlike_46 : decode cX4_unlike 46 = .ok (.getfield 80, 3) := by decide +kernel
theorem dX4_unlike_49 : decode cX4_unlike 49 = .ok (.if_icmp .ge 32, 3) := by decide +kernel
theorem dX4_unlike_52 : decode cX4_unlike 52 = .ok (.aload_n 0, 1) := by decide +kernel
theorem dX4_unlike_53 : decode cX4_unlike 53 = .ok (.getfield 12, 3) := by decide +kernel
theorem dX4_unlike_56 : decode cX4_unlike 56 = .ok (.iload 4, 2) := by decide +kernel
theorem dX4_unlike_58 : decode cX4_unlike 58 = .ok (.invokevirtual 206, 3) := by decide +kernel
theorem dX4_unlike_61 : decode cX4_unlike 61 = .ok (.istore 5, 2) := by decide +kernel
theorem dX4_unlike_63 : decode cX4_unlike 63 = .ok (.iload 5, 2) := by decide +kernel
theorem dX4_unlike_65 : decode cX4_unlike 65 = .ok (.iload_n 3, 1) := by decide +kernel
theorem dX4_unlike_66 : decode cX4_unlike 66 = .ok (.if_icmp .le 9, 3) := by decide +kernel
theorem dX4_unlike_69 : decode cX4_unlike 69 = .ok (.iload 5, 2) := by decide +kernel
theorem dX4_unlike_71 : decode cX4_unlike 71 = .ok (.istore_n 3, 1) := by decide +kernel
theorem dX4_unlike_72 : decode cX4_unlike 72 = .ok (.iload 4, 2) := by decide +kernel
theorem dX4_unlike_74 : decode cX4_unlike 74 = .ok (.istore_n 2, 1) := by decide +kernel
theorem dX4_unlike_75 : decode cX4_unlike 75 = .ok (.iinc 4 1, 3) := by decide +kernel
theorem dX4_unlike_78 : decode cX4_unlike 78 = .ok (.goto (-38), 3) := by decide +kernel
theorem dX4_unlike_81 : decode cX4_unlike 81 = .ok (.iload_n 1, 1) := by decide +kernel
theorem dX4_unlike_82 : decode cX4_unlike 82 = .ok (.ifCond .ne 7, 3) := by decide +kernel
theorem dX4_unlike_85 : decode cX4_unlike 85 = .ok (.iload_n 2, 1) := by decide +kernel
theorem dX4_unlike_86 : decode cX4_unlike 86 = .ok (.goto 4, 3) := by decide +kernel
theorem dX4_unlike_89 : decode cX4_unlike 89 = .ok (.iload_n 3, 1) := by decide +kernel
theorem dX4_unlike_90 : decode cX4_unlike 90 = .ok (.ireturn, 1) := by decide +kernel
theorem dX4_counts_0 : decode cX4_counts 0 = .ok (.iload_n 1, 1) := by decide +kernel
theorem dX4_counts_1 : decode cX4_counts 1 = .ok (.invokestatic 57, 3) := by decide +kernel
theorem dX4_counts_4 : decode cX4_counts 4 = .ok (.ifCond .ne 10, 3) := by decide +kernel
theorem dX4_counts_7 : decode cX4_counts 7 = .ok (.aload_n 0, 1) := by decide +kernel
theorem dX4_counts_8 : decode cX4_counts 8 = .ok (.ldc 65, 2) := by decide +kernel
theorem dX4_counts_10 : decode cX4_counts 10 = .ok (.invokevirtual 66, 3) := by decide +kernel
theorem dX4_counts_13 : decode cX4_counts 13 = .ok (.ireturn, 1) := by decide +kernel
theorem dX4_counts_14 : decode cX4_counts 14 = .ok (.aload_n 0, 1) := by decide +kernel
theorem dX4_counts_15 : decode cX4_counts 15 = .ok (.getfield 25, 3) := by decide +kernel
theorem dX4_counts_18 : decode cX4_counts 18 = .ok (.aload_n 0, 1) := by decide +kernel
theorem dX4_counts_19 : decode cX4_counts 19 = .ok (.getfield 12, 3) := by decide +kernel
theorem dX4_counts_22 : decode cX4_counts 22 = .ok (.invokevirtual 112, 3) := by decide +kernel
theorem dX4_counts_25 : decode cX4_counts 25 = .ok (.aload_n 0, 1) := by decide +kernel
theorem dX4_counts_26 : decode cX4_counts 26 = .ok (.getfield 25, 3) := by decide +kernel
theorem dX4_counts_29 : decode cX4_counts 29 = .ok (.iload_n 1, 1) := by decide +kernel
theorem dX4_counts_30 : decode cX4_counts 30 = .ok (.invokevirtual 209, 3) := by decide +kernel
theorem dX4_counts_33 : decode cX4_counts 33 = .ok (.ireturn, 1) := by decide +kernel
theorem dX4_heavy_0 : decode cX4_heavy 0 = .ok (.aload_n 0, 1) := by decide +kernel
theorem dX4_heavy_1 : decode cX4_heavy 1 = .ok (.getfield 25, 3) := by decide +kernel
theorem dX4_heavy_4 : decode cX4_heavy 4 = .ok (.aload_n 0, 1) := by decide +kernel
theorem dX4_heavy_5 : decode cX4_heavy 5 = .ok (.getfield 12, 3) := by decide +kernel
theorem dX4_heavy_8 : decode cX4_heavy 8 = .ok (.invokevirtual 112, 3) := by decide +kernel
theorem dX4_heavy_11 : decode cX4_heavy 11 = .ok (.iconst 0, 1) := by decide +kernel
theorem dX4_heavy_12 : decode cX4_heavy 12 = .ok (.istore_n 1, 1) := by decide +kernel
theorem dX4_heavy_13 : decode cX4_heavy 13 = .ok (.iconst (-1), 1) := by decide +kernel
theorem dX4_heavy_14 : decode cX4_heavy 14 = .ok (.istore_n 2, 1) := by decide +kernel
theorem dX4_heavy_15 : decode cX4_heavy 15 = .ok (.iconst 0, 1) := by decide +kernel
theorem dX4_heavy_16 : decode cX4_heavy 16 = .ok (.istore_n 3, 1) := by decide +kernel
theorem dX4_heavy_17 : decode cX4_heavy 17 = .ok (.iload_n 3, 1) := by decide +kernel
theorem dX4_heavy_18 : decode cX4_heavy 18 = .ok (.bipush 8, 2) := by decide +kernel
theorem dX4_heavy_20 : decode cX4_heavy 20 = .ok (.if_icmp .ge 30, 3) := by decide +kernel
theorem dX4_heavy_23 : decode cX4_heavy 23 = .ok (.aload_n 0, 1) := by decide +kernel
theorem dX4_heavy_24 : decode cX4_heavy 24 = .ok (.getfield 25, 3) := by decide +kernel
theorem dX4_heavy_27 : decode cX4_heavy 27 = .ok (.iload_n 3, 1) := by decide +kernel
theorem dX4_heavy_28 : decode cX4_heavy 28 = .ok (.invokevirtual 209, 3) := by decide +kernel
theorem dX4_heavy_31 : decode cX4_heavy 31 = .ok (.istore 4, 2) := by decide +kernel
theorem dX4_heavy_33 : decode cX4_heavy 33 = .ok (.iload 4, 2) := by decide +kernel
theorem dX4_heavy_35 : decode cX4_heavy 35 = .ok (.iload_n 2, 1) := by decide +kernel
theorem dX4_heavy_36 : decode cX4_heavy 36 = .ok (.if_icmp .le 8, 3) := by decide +kernel
theorem dX4_heavy_39 : decode cX4_heavy 39 = .ok (.iload 4, 2) := by decide +kernel
theorem dX4_heavy_41 : decode cX4_heavy 41 = .ok (.istore_n 2, 1) := by decide +kernel
theorem dX4_heavy_42 : decode cX4_heavy 42 = .ok (.iload_n 3, 1) := by decide +kernel
theorem dX4_heavy_43 : decode cX4_heavy 43 = .ok (.istore_n 1, 1) := by decide +kernel
theorem dX4_heavy_44 : decode cX4_heavy 44 = .ok (.iinc 3 1, 3) := by decide +kernel
theorem dX4_heavy_47 : decode cX4_heavy 47 = .ok (.goto (-30), 3) := by decide +kernel
theorem dX4_heavy_50 : decode cX4_heavy 50 = .ok (.iload_n 1, 1) := by decide +kernel
theorem dX4_heavy_51 : decode cX4_heavy 51 = .ok (.ireturn, 1) := by decide +kernel
theorem dX4_seed_0 : decode cX4_seed 0 = .ok (.aload_n 0, 1) := by decide +kernel
theorem dX4_seed_1 : decode cX4_seed 1 = .ok (.getfield 12, 3) := by decide +kernel
theorem dX4_seed_4 : decode cX4_seed 4 = .ok (.getfield 212, 3) := by decide +kernel
theorem dX4_seed_7 : decode cX4_seed 7 = .ok (.istore_n 2, 1) := by decide +kernel
theorem dX4_seed_8 : decode cX4_seed 8 = .ok (.aload_n 0, 1) := by decide +kernel
theorem dX4_seed_9 : decode cX4_seed 9 = .ok (.getfield 12, 3) := by decide +kernel
theorem dX4_seed_12 : decode cX4_seed 12 = .ok (.iload_n 1, 1) := by decide +kernel
theorem dX4_seed_13 : decode cX4_seed 13 = .ok (.putfield 212, 3) := by decide +kernel
theorem dX4_seed_16 : decode cX4_seed 16 = .ok (.iload_n 2, 1) := by decide +kernel
theorem dX4_seed_17 : decode cX4_seed 17 = .ok (.ireturn, 1) := by decide +kernel
theorem dX4_feed_0 : decode cX4_feed 0 = .ok (.iload_n 2, 1) := by decide +kernel
theorem dX4_feed_1 : decode cX4_feed 1 = .ok (.iconst 1, 1) := by decide +kernel
theorem dX4_feed_2 : decode cX4_feed 2 = .ok (.iconst 4, 1) := by decide +kernel
theorem dX4_feed_3 : decode cX4_feed 3 = .ok (.invokestatic 61, 3) := by decide +kernel
theorem dX4_feed_6 : decode cX4_feed 6 = .ok (.ifCond .ne 10, 3) := by decide +kernel
theorem dX4_feed_9 : decode cX4_feed 9 = .ok (.aload_n 0, 1) := by decide +kernel
theorem dX4_feed_10 : decode cX4_feed 10 = .ok (.ldc 65, 2) := by decide +kernel
theorem dX4_feed_12 : decode cX4_feed 12 = .ok (.invokevirtual 66, 3) := by decide +kernel
theorem dX4_feed_15 : decode cX4_feed 15 = .ok (.ireturn, 1) := by decide +kernel
theorem dX4_feed_16 : decode cX4_feed 16 = .ok (.aload_n 0, 1) := by decide +kernel
theorem dX4_feed_17 : decode cX4_feed 17 = .ok (.getfield 32, 3) := by decide +kernel
theorem dX4_feed_20 : decode cX4_feed 20 = .ok (.getfield 215, 3) := by decide +kernel
theorem dX4_feed_23 : decode cX4_feed 23 = .ok (.iload_n 2, 1) := by decide +kernel
theorem dX4_feed_24 : decode cX4_feed 24 = .ok (.iadd, 1) := by decide +kernel
theorem dX4_feed_25 : decode cX4_feed 25 = .ok (.bipush 120, 2) := by decide +kernel
theorem dX4_feed_27 : decode cX4_feed 27 = .ok (.if_icmp .le 10, 3) := by decide +kernel
theorem dX4_feed_30 : decode cX4_feed 30 = .ok (.aload_n 0, 1) := by decide +kernel
theorem dX4_feed_31 : decode cX4_feed 31 = .ok (.ldc 84, 2) := by decide +kernel
theorem dX4_feed_33 : decode cX4_feed 33 = .ok (.invokevirtual 66, 3) := by decide +kernel
theorem dX4_feed_36 : decode cX4_feed 36 = .ok (.ireturn, 1) := by decide +kernel
theorem dX4_feed_37 : decode cX4_feed 37 = .ok (.iload_n 2, 1) := by decide +kernel
theorem dX4_feed_38 : decode cX4_feed 38 = .ok (.iconst 1, 1) := by decide +kernel
theorem dX4_feed_39 : decode cX4_feed 39 = .ok (.isub, 1) := by decide +kernel
theorem dX4_feed_40 : decode cX4_feed 40 = .ok (.istore_n 3, 1) := by decide +kernel
theorem dX4_feed_41 : decode cX4_feed 41 = .ok (.iload_n 3, 1) := by decide +kernel
theorem dX4_feed_42 : decode cX4_feed 42 = .ok (.ifCond .lt 22, 3) := by decide +kernel
theorem dX4_feed_45 : decode cX4_feed 45 = .ok (.aload_n 0, 1) := by decide +kernel
theorem dX4_feed_46 : decode cX4_feed 46 = .ok (.getfield 32, 3) := by decide +kernel
theorem dX4_feed_49 : decode cX4_feed 49 = .ok (.iload_n 1, 1) := by decide +kernel
theorem dX4_feed_50 : decode cX4_feed 50 = .ok (.bipush 8, 2) := by decide +kernel
theorem dX4_feed_52 : decode cX4_feed 52 = .ok (.iload_n 3, 1) := by decide +kernel
theorem dX4_feed_53 : decode cX4_feed 53 = .ok (.imul, 1) := by decide +kernel
theorem dX4_feed_54 : decode cX4_feed 54 = .ok (.iushr, 1) := by decide +kernel
theorem dX4_feed_55 : decode cX4_feed 55 = .ok (.invokevirtual 218, 3) := by decide +kernel
theorem dX4_feed_58 : decode cX4_feed 58 = .ok (.iinc 3 (-1), 3) := by decide +kernel
theorem dX4_feed_61 : decode cX4_feed 61 = .ok (.goto (-20), 3) := by decide +kernel
theorem dX4_feed_64 : decode cX4_feed 64 = .ok (.aload_n 0, 1) := by decide +kernel
theorem dX4_feed_65 : decode cX4_feed 65 = .ok (.getfield 32, 3) := by decide +kernel
theorem dX4_feed_68 : decode cX4_feed 68 = .ok (.getfield 215, 3) := by decide +kernel
theorem dX4_feed_71 : decode cX4_feed 71 = .ok (.ireturn, 1) := by decide +kernel
theorem dX4_wipe_0 : decode cX4_wipe 0 = .ok (.aload_n 0, 1) := by decide +kernel
theorem dX4_wipe_1 : decode cX4_wipe 1 = .ok (.getfield 32, 3) := by decide +kernel
theorem dX4_wipe_4 : decode cX4_wipe 4 = .ok (.getfield 215, 3) := by decide +kernel
theorem dX4_wipe_7 : decode cX4_wipe 7 = .ok (.istore_n 1, 1) := by decide +kernel
theorem dX4_wipe_8 : decode cX4_wipe 8 = .ok (.aload_n 0, 1) := by decide +kernel
theorem dX4_wipe_9 : decode cX4_wipe 9 = .ok (.getfield 32, 3) := by decide +kernel
theorem dX4_wipe_12 : decode cX4_wipe 12 = .ok (.iconst 0, 1) := by decide +kernel
theorem dX4_wipe_13 : decode cX4_wipe 13 = .ok (.putfield 215, 3) := by decide +kernel
theorem dX4_wipe_16 : decode cX4_wipe 16 = .ok (.iload_n 1, 1) := by decide +kernel
theorem dX4_wipe_17 : decode cX4_wipe 17 = .ok (.ireturn, 1) := by decide +kernel
theorem dX4_text_0 : decode cX4_text 0 = .ok (.aload_n 0, 1) := by decide +kernel
theorem dX4_text_1 : decode cX4_text 1 = .ok (.getfield 19, 3) := by decide +kernel
theorem dX4_text_4 : decode cX4_text 4 = .ok (.aload_n 0, 1) := by decide +kernel
theorem dX4_text_5 : decode cX4_text 5 = .ok (.getfield 12, 3) := by decide +kernel
theorem dX4_text_8 : decode cX4_text 8 = .ok (.invokevirtual 221, 3) := by decide +kernel
theorem dX4_text_11 : decode cX4_text 11 = .ok (.aload_n 0, 1) := by decide +kernel
theorem dX4_text_12 : decode cX4_text 12 = .ok (.getfield 32, 3) := by decide +kernel
theorem dX4_text_15 : decode cX4_text 15 = .ok (.aload_n 0, 1) := by decide +kernel
theorem dX4_text_16 : decode cX4_text 16 = .ok (.getfield 19, 3) := by decide +kernel
theorem dX4_text_19 : decode cX4_text 19 = .ok (.invokevirtual 224, 3) := by decide +kernel
theorem dX4_text_22 : decode cX4_text 22 = .ok (.istore_n 1, 1) := by decide +kernel
theorem dX4_text_23 : decode cX4_text 23 = .ok (.aload_n 0, 1) := by decide +kernel
theorem dX4_text_24 : decode cX4_text 24 = .ok (.getfield 32, 3) := by decide +kernel
theorem dX4_text_27 : decode cX4_text 27 = .ok (.iconst 0, 1) := by decide +kernel
theorem dX4_text_28 : decode cX4_text 28 = .ok (.putfield 215, 3) := by decide +kernel
theorem dX4_text_31 : decode cX4_text 31 = .ok (.iload_n 1, 1) := by decide +kernel
theorem dX4_text_32 : decode cX4_text 32 = .ok (.ifCond .le 14, 3) := by decide +kernel
theorem dX4_text_35 : decode cX4_text 35 = .ok (.aload_n 0, 1) := by decide +kernel
theorem dX4_text_36 : decode cX4_text 36 = .ok (.getfield 12, 3) := by decide +kernel
theorem dX4_text_39 : decode cX4_text 39 = .ok (.aload_n 0, 1) := by decide +kernel
theorem dX4_text_40 : decode cX4_text 40 = .ok (.getfield 19, 3) := by decide +kernel
theorem dX4_text_43 : decode cX4_text 43 = .ok (.invokevirtual 221, 3) := by decide +kernel
theorem dX4_text_46 : decode cX4_text 46 = .ok (.iload_n 1, 1) := by decide +kernel
theorem dX4_text_47 : decode cX4_text 47 = .ok (.ireturn, 1) := by decide +kernel
theorem dX4_hold_0 : decode cX4_hold 0 = .ok (.iload_n 1, 1) := by decide +kernel
theorem dX4_hold_1 : decode cX4_hold 1 = .ok (.invokestatic 228, 3) := by decide +kernel
theorem dX4_hold_4 : decode cX4_hold 4 = .ok (.ifCond .eq 16, 3) := by decide +kernel
theorem dX4_hold_7 : decode cX4_hold 7 = .ok (.iload_n 2, 1) := by decide +kernel
theorem dX4_hold_8 : decode cX4_hold 8 = .ok (.iconst (-1), 1) := by decide +kernel
theorem dX4_hold_9 : decode cX4_hold 9 = .ok (.if_icmp .eq 18, 3) := by decide +kernel
theorem dX4_hold_12 : decode cX4_hold 12 = .ok (.aload_n 0, 1) := by decide +kernel
theorem dX4_hold_13 : decode cX4_hold 13 = .ok (.iload_n 2, 1) := by decide +kernel
theorem dX4_hold_14 : decode cX4_hold 14 = .ok (.invokevirtual 150, 3) := by decide +kernel
theorem dX4_hold_17 : decode cX4_hold 17 = .ok (.ifCond .ne 10, 3) := by decide +kernel
theorem dX4_hold_20 : decode cX4_hold 20 = .ok (.aload_n 0, 1) := by decide +kernel
theorem dX4_hold_21 : decode cX4_hold 21 = .ok (.ldc 65, 2) := by decide +kernel
theorem dX4_hold_23 : decode cX4_hold 23 = .ok (.invokevirtual 66, 3) := by decide +kernel
theorem dX4_hold_26 : decode cX4_hold 26 = .ok (.ireturn, 1) := by decide +kernel
theorem dX4_hold_27 : decode cX4_hold 27 = .ok (.aload_n 0, 1) := by decide +kernel
theorem dX4_hold_28 : decode cX4_hold 28 = .ok (.getfield 12, 3) := by decide +kernel
theorem dX4_hold_31 : decode cX4_hold 31 = .ok (.getfield 231, 3) := by decide +kernel
theorem dX4_hold_34 : decode cX4_hold 34 = .ok (.iload_n 1, 1) := by decide +kernel
theorem dX4_hold_35 : decode cX4_hold 35 = .ok (.iload_n 2, 1) := by decide +kernel
theorem dX4_hold_36 : decode cX4_hold 36 = .ok (.iastore, 1) := by decide +kernel
theorem dX4_hold_37 : decode cX4_hold 37 = .ok (.iconst 1, 1) := by decide +kernel
theorem dX4_hold_38 : decode cX4_hold 38 = .ok (.ireturn, 1) := by decide +kernel
theorem dX4_as_0 : decode cX4_as 0 = .ok (.iload_n 1, 1) := by decide +kernel
theorem dX4_as_1 : decode cX4_as 1 = .ok (.invokestatic 228, 3) := by decide +kernel
theorem dX4_as_4 : decode cX4_as 4 = .ok (.ifCond .eq 10, 3) := by decide +kernel
theorem dX4_as_7 : decode cX4_as 7 = .ok (.iload_n 2, 1) := by decide +kernel
theorem dX4_as_8 : decode cX4_as 8 = .ok (.invokestatic 138, 3) := by decide +kernel
theorem dX4_as_11 : decode cX4_as 11 = .ok (.ifCond .ne 10, 3) := by decide +kernel
theorem dX4_as_14 : decode cX4_as 14 = .ok (.aload_n 0, 1) := by decide +kernel
theorem dX4_as_15 : decode cX4_as 15 = .ok (.ldc 65, 2) := by decide +kernel
theorem dX4_as_17 : decode cX4_as 17 = .ok (.invokevirtual 66, 3) := by decide +kernel
theorem dX4_as_20 : decode cX4_as 20 = .ok (.ireturn, 1) := by decide +kernel
theorem dX4_as_21 : decode cX4_as 21 = .ok (.aload_n 0, 1) := by decide +kernel
theorem dX4_as_22 : decode cX4_as 22 = .ok (.getfield 12, 3) := by decide +kernel
theorem dX4_as_25 : decode cX4_as 25 = .ok (.getfield 231, 3) := by decide +kernel
theorem dX4_as_28 : decode cX4_as 28 = .ok (.iload_n 1, 1) := by decide +kernel
theorem dX4_as_29 : decode cX4_as 29 = .ok (.iaload, 1) := by decide +kernel
theorem dX4_as_30 : decode cX4_as 30 = .ok (.istore_n 3, 1) := by decide +kernel
theorem dX4_as_31 : decode cX4_as 31 = .ok (.aload_n 0, 1) := by decide +kernel
theorem dX4_as_32 : decode cX4_as 32 = .ok (.iload_n 3, 1) := by decide +kernel
theorem dX4_as_33 : decode cX4_as 33 = .ok (.invokevirtual 150, 3) := by decide +kernel
theorem dX4_as_36 : decode cX4_as 36 = .ok (.ifCond .ne 10, 3) := by decide +kernel
theorem dX4_as_39 : decode cX4_as 39 = .ok (.aload_n 0, 1) := by decide +kernel
theorem dX4_as_40 : decode cX4_as 40 = .ok (.ldc 234, 2) := by decide +kernel
theorem dX4_as_42 : decode cX4_as 42 = .ok (.invokevirtual 66, 3) := by decide +kernel
theorem dX4_as_45 : decode cX4_as 45 = .ok (.ireturn, 1) := by decide +kernel
theorem dX4_as_46 : decode cX4_as 46 = .ok (.aload_n 0, 1) := by decide +kernel
theorem dX4_as_47 : decode cX4_as 47 = .ok (.getfield 12, 3) := by decide +kernel
theorem dX4_as_50 : decode cX4_as 50 = .ok (.getfield 153, 3) := by decide +kernel
theorem dX4_as_53 : decode cX4_as 53 = .ok (.iload_n 3, 1) := by decide +kernel
theorem dX4_as_54 : decode cX4_as 54 = .ok (.iaload, 1) := by decide +kernel
theorem dX4_as_55 : decode cX4_as 55 = .ok (.iload_n 2, 1) := by decide +kernel
theorem dX4_as_56 : decode cX4_as 56 = .ok (.invokestatic 235, 3) := by decide +kernel
theorem dX4_as_59 : decode cX4_as 59 = .ok (.ifCond .eq 7, 3) := by decide +kernel
theorem dX4_as_62 : decode cX4_as 62 = .ok (.iload_n 3, 1) := by decide +kernel
theorem dX4_as_63 : decode cX4_as 63 = .ok (.goto 9, 3) := by decide +kernel
theorem dX4_as_66 : decode cX4_as 66 = .ok (.aload_n 0, 1) := by decide +kernel
theorem dX4_as_67 : decode cX4_as 67 = .ok (.ldc 239, 2) := by decide +kernel
theorem dX4_as_69 : decode cX4_as 69 = .ok (.invokevirtual 66, 3) := by decide +kernel
theorem dX4_as_72 : decode cX4_as 72 = .ok (.ireturn, 1) := by decide +kernel
theorem dX4_sheet_0 : decode cX4_sheet 0 = .ok (.iload_n 1, 1) := by decide +kernel
theorem dX4_sheet_1 : decode cX4_sheet 1 = .ok (.invokestatic 240, 3) := by decide +kernel
theorem dX4_sheet_4 : decode cX4_sheet 4 = .ok (.ifCond .eq 25, 3) := by decide +kernel
theorem dX4_sheet_7 : decode cX4_sheet 7 = .ok (.iload_n 2, 1) := by decide +kernel
theorem dX4_sheet_8 : decode cX4_sheet 8 = .ok (.ifCond .eq 28, 3) := by decide +kernel
theorem dX4_sheet_11 : decode cX4_sheet 11 = .ok (.iload_n 2, 1) := by decide +kernel
theorem dX4_sheet_12 : decode cX4_sheet 12 = .ok (.bipush 8, 2) := by decide +kernel
theorem dX4_sheet_14 : decode cX4_sheet 14 = .ok (.if_icmp .eq 22, 3) := by decide +kernel
theorem dX4_sheet_17 : decode cX4_sheet 17 = .ok (.iload_n 2, 1) := by decide +kernel
theorem dX4_sheet_18 : decode cX4_sheet 18 = .ok (.bipush 16, 2) := by decide +kernel
theorem dX4_sheet_20 : decode cX4_sheet 20 = .ok (.if_icmp .eq 16, 3) := by decide +kernel
theorem dX4_sheet_23 : decode cX4_sheet 23 = .ok (.iload_n 2, 1) := by decide +kernel
theorem dX4_sheet_24 : decode cX4_sheet 24 = .ok (.bipush 32, 2) := by decide +kernel
theorem dX4_sheet_26 : decode cX4_sheet 26 = .ok (.if_icmp .eq 10, 3) := by decide +kernel
theorem dX4_sheet_29 : decode cX4_sheet 29 = .ok (.aload_n 0, 1) := by decide +kernel
theorem dX4_sheet_30 : decode cX4_sheet 30 = .ok (.ldc 65, 2) := by decide +kernel
theorem dX4_sheet_32 : decode cX4_sheet 32 = .ok (.invokevirtual 66, 3) := by decide +kernel
theorem dX4_sheet_35 : decode cX4_sheet 35 = .ok (.ireturn, 1) := by decide +kernel
theorem dX4_sheet_36 : decode cX4_sheet 36 = .ok (.iload_n 3, 1) := by decide +kernel
theorem dX4_sheet_37 : decode cX4_sheet 37 = .ok (.ifCond .ge 10, 3) := by decide +kernel
theorem dX4_sheet_40 : decode cX4_sheet 40 = .ok (.aload_n 0, 1) := by decide +kernel
theorem dX4_sheet_41 : decode cX4_sheet 41 = .ok (.ldc 243, 2) := by decide +kernel
theorem dX4_sheet_43 : decode cX4_sheet 43 = .ok (.invokevirtual 66, 3) := by decide +kernel
theorem dX4_sheet_46 : decode cX4_sheet 46 = .ok (.ireturn, 1) := by decide +kernel
theorem dX4_sheet_47 : decode cX4_sheet 47 = .ok (.iload_n 3, 1) := by decide +kernel
theorem dX4_sheet_48 : decode cX4_sheet 48 = .ok (.bipush 40, 2) := by decide +kernel
theorem dX4_sheet_50 : decode cX4_sheet 50 = .ok (.if_icmp .le 10, 3) := by decide +kernel
theorem dX4_sheet_53 : decode cX4_sheet 53 = .ok (.aload_n 0, 1) := by decide +kernel
theorem dX4_sheet_54 : decode cX4_sheet 54 = .ok (.ldc 65, 2) := by decide +kernel
theorem dX4_sheet_56 : decode cX4_sheet 56 = .ok (.invokevirtual 66, 3) := by decide +kernel
theorem dX4_sheet_59 : decode cX4_sheet 59 = .ok (.ireturn, 1) := by decide +kernel
theorem dX4_sheet_60 : decode cX4_sheet 60 = .ok (.aload_n 0, 1) := by decide +kernel
theorem dX4_sheet_61 : decode cX4_sheet 61 = .ok (.getfield 38, 3) := by decide +kernel
theorem dX4_sheet_64 : decode cX4_sheet 64 = .ok (.iload_n 1, 1) := by decide +kernel
theorem dX4_sheet_65 : decode cX4_sheet 65 = .ok (.aaload, 1) := by decide +kernel
theorem dX4_sheet_66 : decode cX4_sheet 66 = .ok (.iload_n 2, 1) := by decide +kernel
theorem dX4_sheet_67 : decode cX4_sheet 67 = .ok (.iload_n 3, 1) := by decide +kernel
theorem dX4_sheet_68 : decode cX4_sheet 68 = .ok (.invokevirtual 244, 3) := by decide +kernel
theorem dX4_sheet_71 : decode cX4_sheet 71 = .ok (.aload_n 0, 1) := by decide +kernel
theorem dX4_sheet_72 : decode cX4_sheet 72 = .ok (.getfield 38, 3) := by decide +kernel
theorem dX4_sheet_75 : decode cX4_sheet 75 = .ok (.iload_n 1, 1) := by decide +kernel
theorem dX4_sheet_76 : decode cX4_sheet 76 = .ok (.aaload, 1) := by decide +kernel
theorem dX4_sheet_77 : decode cX4_sheet 77 = .ok (.getfield 247, 3) := by decide +kernel
theorem dX4_sheet_80 : decode cX4_sheet 80 = .ok (.ireturn, 1) := by decide +kernel
theorem dX4_write_0 : decode cX4_write 0 = .ok (.iload_n 1, 1) := by decide +kernel
theorem dX4_write_1 : decode cX4_write 1 = .ok (.invokestatic 240, 3) := by decide +kernel
theorem dX4_write_4 : decode cX4_write 4 = .ok (.ifCond .ne 10, 3) := by decide +kernel
theorem dX4_write_7 : decode cX4_write 7 = .ok (.aload_n 0, 1) := by decide +kernel
theorem dX4_write_8 : decode cX4_write 8 = .ok (.ldc 65, 2) := by decide +kernel
theorem dX4_write_10 : decode cX4_write 10 = .ok (.invokevirtual 66, 3) := by decide +kernel
theorem dX4_write_13 : decode cX4_write 13 = .ok (.ireturn, 1) := by decide +kernel
theorem dX4_write_14 : decode cX4_write 14 = .ok (.aload_n 0, 1) := by decide +kernel
theorem dX4_write_15 : decode cX4_write 15 = .ok (.getfield 38, 3) := by decide +kernel
theorem dX4_write_18 : decode cX4_write 18 = .ok (.iload_n 1, 1) := by decide +kernel
theorem dX4_write_19 : decode cX4_write 19 = .ok (.aaload, 1) := by decide +kernel
theorem dX4_write_20 : decode cX4_write 20 = .ok (.invokevirtual 250, 3) := by decide +kernel
theorem dX4_write_23 : decode cX4_write 23 = .ok (.ifCond .eq 10, 3) := by decide +kernel
theorem dX4_write_26 : decode cX4_write 26 = .ok (.aload_n 0, 1) := by decide +kernel
theorem dX4_write_27 : decode cX4_write 27 = .ok (.ldc 234, 2) := by decide +kernel
theorem dX4_write_29 : decode cX4_write 29 = .ok (.invokevirtual 66, 3) := by decide +kernel
theorem dX4_write_32 : decode cX4_write 32 = .ok (.ireturn, 1) := by decide +kernel
theorem dX4_write_33 : decode cX4_write 33 = .ok (.iload_n 2, 1) := by decide +kernel
theorem dX4_write_34 : decode cX4_write 34 = .ok (.iconst 0, 1) := by decide +kernel
theorem dX4_write_35 : decode cX4_write 35 = .ok (.aload_n 0, 1) := by decide +kernel
theorem dX4_write_36 : decode cX4_write 36 = .ok (.getfield 38, 3) := by decide +kernel
theorem dX4_write_39 : decode cX4_write 39 = .ok (.iload_n 1, 1) := by decide +kernel
theorem dX4_write_40 : decode cX4_write 40 = .ok (.aaload, 1) := by decide +kernel
theorem dX4_write_41 : decode cX4_write 41 = .ok (.getfield 247, 3) := by decide +kernel
theorem dX4_write_44 : decode cX4_write 44 = .ok (.iconst 1, 1) := by decide +kernel
theorem dX4_write_45 : decode cX4_write 45 = .ok (.isub, 1) := by decide +kernel
theorem dX4_write_46 : decode cX4_write 46 = .ok (.invokestatic 61, 3) := by decide +kernel
theorem dX4_write_49 : decode cX4_write 49 = .ok (.ifCond .ne 10, 3) := by decide +kernel
theorem dX4_write_52 : decode cX4_write 52 = .ok (.aload_n 0, 1) := by decide +kernel
theorem dX4_write_53 : decode cX4_write 53 = .ok (.ldc 65, 2) := by decide +kernel
theorem dX4_write_55 : decode cX4_write 55 = .ok (.invokevirtual 66, 3) := by decide +kernel
theorem dX4_write_58 : decode cX4_write 58 = .ok (.ireturn, 1) := by decide +kernel
theorem dX4_write_59 : decode cX4_write 59 = .ok (.aload_n 0, 1) := by decide +kernel
theorem dX4_write_60 : decode cX4_write 60 = .ok (.getfield 38, 3) := by decide +kernel
theorem dX4_write_63 : decode cX4_write 63 = .ok (.iload_n 1, 1) := by decide +kernel
theorem dX4_write_64 : decode cX4_write 64 = .ok (.aaload, 1) := by decide +kernel
theorem dX4_write_65 : decode cX4_write 65 = .ok (.iload_n 2, 1) := by decide +kernel
theorem dX4_write_66 : decode cX4_write 66 = .ok (.iload_n 3, 1) := by decide +kernel
theorem dX4_write_67 : decode cX4_write 67 = .ok (.invokevirtual 254, 3) := by decide +kernel
theorem dX4_write_70 : decode cX4_write 70 = .ok (.iconst 1, 1) := by decide +kernel
theorem dX4_write_71 : decode cX4_write 71 = .ok (.ireturn, 1) := by decide +kernel
theorem dX4_copy_0 : decode cX4_copy 0 = .ok (.iload_n 1, 1) := by decide +kernel
theorem dX4_copy_1 : decode cX4_copy 1 = .ok (.invokestatic 240, 3) := by decide +kernel
theorem dX4_copy_4 : decode cX4_copy 4 = .ok (.ifCond .eq 10, 3) := by decide +kernel
theorem dX4_copy_7 : decode cX4_copy 7 = .ok (.iload_n 3, 1) := by decide +kernel
theorem dX4_copy_8 : decode cX4_copy 8 = .ok (.invokestatic 240, 3) := by decide +kernel
theorem dX4_copy_11 : decode cX4_copy 11 = .ok (.ifCond .ne 10, 3) := by decide +kernel
theorem dX4_copy_14 : decode cX4_copy 14 = .ok (.aload_n 0, 1) := by decide +kernel
theorem dX4_copy_15 : decode cX4_copy 15 = .ok (.ldc 65, 2) := by decide +kernel
theorem dX4_copy_17 : decode cX4_copy 17 = .ok (.invokevirtual 66, 3) := by decide +kernel
theorem dX4_copy_20 : decode cX4_copy 20 = .ok (.ireturn, 1) := by decide +kernel
theorem dX4_copy_21 : decode cX4_copy 21 = .ok (.aload_n 0, 1) := by decide +kernel
theorem dX4_copy_22 : decode cX4_copy 22 = .ok (.getfield 38, 3) := by decide +kernel
theorem dX4_copy_25 : decode cX4_copy 25 = .ok (.iload_n 1, 1) := by decide +kernel
theorem dX4_copy_26 : decode cX4_copy 26 = .ok (.aaload, 1) := by decide +kernel
theorem dX4_copy_27 : decode cX4_copy 27 = .ok (.astore 6, 2) := by decide +kernel
theorem dX4_copy_29 : decode cX4_copy 29 = .ok (.aload_n 0, 1) := by decide +kernel
theorem dX4_copy_30 : decode cX4_copy 30 = .ok (.getfield 38, 3) := by decide +kernel
theorem dX4_copy_33 : decode cX4_copy 33 = .ok (.iload_n 3, 1) := by decide +kernel
theorem dX4_copy_34 : decode cX4_copy 34 = .ok (.aaload, 1) := by decide +kernel
theorem dX4_copy_35 : decode cX4_copy 35 = .ok (.astore 7, 2) := by decide +kernel
theorem dX4_copy_37 : decode cX4_copy 37 = .ok (.aload 6, 2) := by decide +kernel
theorem dX4_copy_39 : decode cX4_copy 39 = .ok (.invokevirtual 250, 3) := by decide +kernel
theorem dX4_copy_42 : decode cX4_copy 42 = .ok (.ifCond .ne 11, 3) := by decide +kernel
theorem dX4_copy_45 : decode cX4_copy 45 = .ok (.aload 7, 2) := by decide +kernel
theorem dX4_copy_47 : decode cX4_copy 47 = .ok (.invokevirtual 250, 3) := by decide +kernel
theorem dX4_copy_50 : decode cX4_copy 50 = .ok (.ifCond .eq 10, 3) := by decide +kernel
theorem dX4_copy_53 : decode cX4_copy 53 = .ok (.aload_n 0, 1) := by decide +kernel
theorem dX4_copy_54 : decode cX4_copy 54 = .ok (.ldc 234, 2) := by decide +kernel
theorem dX4_copy_56 : decode cX4_copy 56 = .ok (.invokevirtual 66, 3) := by decide +kernel
theorem dX4_copy_59 : decode cX4_copy 59 = .ok (.ireturn, 1) := by decide +kernel
theorem dX4_copy_60 : decode cX4_copy 60 = .ok (.aload 6, 2) := by decide +kernel
theorem dX4_copy_62 : decode cX4_copy 62 = .ok (.getfield 257, 3) := by decide +kernel
theorem dX4_copy_65 : decode cX4_copy 65 = .ok (.aload 7, 2) := by decide +kernel
theorem dX4_copy_67 : decode cX4_copy 67 = .ok (.getfield 257, 3) := by decide +kernel
theorem dX4_copy_70 : decode cX4_copy 70 = .ok (.if_icmp .eq 10, 3) := by decide +kernel
theorem dX4_copy_73 : decode cX4_copy 73 = .ok (.aload_n 0, 1) := by decide +kernel
theorem dX4_copy_74 : decode cX4_copy 74 = .ok (.ldc 239, 2) := by decide +kernel
theorem dX4_copy_76 : decode cX4_copy 76 = .ok (.invokevirtual 66, 3) := by decide +kernel
theorem dX4_copy_79 : decode cX4_copy 79 = .ok (.ireturn, 1) := by decide +kernel
theorem dX4_copy_80 : decode cX4_copy 80 = .ok (.aload 6, 2) := by decide +kernel
theorem dX4_copy_82 : decode cX4_copy 82 = .ok (.iload_n 2, 1) := by decide +kernel
theorem dX4_copy_83 : decode cX4_copy 83 = .ok (.iload 5, 2) := by decide +kernel
theorem dX4_copy_85 : decode cX4_copy 85 = .ok (.invokevirtual 260, 3) := by decide +kernel
theorem dX4_copy_88 : decode cX4_copy 88 = .ok (.ifCond .eq 15, 3) := by decide +kernel
theorem dX4_copy_91 : decode cX4_copy 91 = .ok (.aload 7, 2) := by decide +kernel
theorem dX4_copy_93 : decode cX4_copy 93 = .ok (.iload 4, 2) := by decide +kernel
theorem dX4_copy_95 : decode cX4_copy 95 = .ok (.iload 5, 2) := by decide +kernel
theorem dX4_copy_97 : decode cX4_copy 97 = .ok (.invokevirtual 260, 3) := by decide +kernel
theorem dX4_copy_100 : decode cX4_copy 100 = .ok (.ifCond .ne 10, 3) := by decide +kernel
theorem dX4_copy_103 : decode cX4_copy 103 = .ok (.aload_n 0, 1) := by decide +kernel
theorem dX4_copy_104 : decode cX4_copy 104 = .ok (.ldc 65, 2) := by decide +kernel
theorem dX4_copy_106 : decode cX4_copy 106 = .ok (.invokevirtual 66, 3) := by decide +kernel
theorem dX4_copy_109 : decode cX4_copy 109 = .ok (.ireturn, 1) := by decide +kernel
theorem dX4_copy_110 : decode cX4_copy 110 = .ok (.aload 6, 2) := by decide +kernel
theorem dX4_copy_112 : decode cX4_copy 112 = .ok (.getfield 263, 3) := by decide +kernel
theorem dX4_copy_115 : decode cX4_copy 115 = .ok (.iload_n 2, 1) := by decide +kernel
theorem dX4_copy_116 : decode cX4_copy 116 = .ok (.aload 7, 2) := by decide +kernel
theorem dX4_copy_118 : decode cX4_copy 118 = .ok (.getfield 263, 3) := by decide +kernel
theorem dX4_copy_121 : decode cX4_copy 121 = .ok (.iload 4, 2) := by decide +kernel
theorem dX4_copy_123 : decode cX4_copy 123 = .ok (.iload 5, 2) := by decide +kernel
theorem dX4_copy_125 : decode cX4_copy 125 = .ok (.invokestatic 266, 3) := by decide +kernel
theorem dX4_copy_128 : decode cX4_copy 128 = .ok (.iload 5, 2) := by decide +kernel
theorem dX4_copy_130 : decode cX4_copy 130 = .ok (.ireturn, 1) := by decide +kernel
theorem dX4_load_0 : decode cX4_load 0 = .ok (.iload_n 1, 1) := by decide +kernel
theorem dX4_load_1 : decode cX4_load 1 = .ok (.invokestatic 240, 3) := by decide +kernel
theorem dX4_load_4 : decode cX4_load 4 = .ok (.ifCond .ne 10, 3) := by decide +kernel
theorem dX4_load_7 : decode cX4_load 7 = .ok (.aload_n 0, 1) := by decide +kernel
theorem dX4_load_8 : decode cX4_load 8 = .ok (.ldc 65, 2) := by decide +kernel
theorem dX4_load_10 : decode cX4_load 10 = .ok (.invokevirtual 66, 3) := by decide +kernel
theorem dX4_load_13 : decode cX4_load 13 = .ok (.ireturn, 1) := by decide +kernel
theorem dX4_load_14 : decode cX4_load 14 = .ok (.aload_n 0, 1) := by decide +kernel
theorem dX4_load_15 : decode cX4_load 15 = .ok (.getfield 38, 3) := by decide +kernel
theorem dX4_load_18 : decode cX4_load 18 = .ok (.iload_n 1, 1) := by decide +kernel
theorem dX4_load_19 : decode cX4_load 19 = .ok (.aaload, 1) := by decide +kernel
theorem dX4_load_20 : decode cX4_load 20 = .ok (.astore 4, 2) := by decide +kernel
theorem dX4_load_22 : decode cX4_load 22 = .ok (.aload 4, 2) := by decide +kernel
theorem dX4_load_24 : decode cX4_load 24 = .ok (.invokevirtual 250, 3) := by decide +kernel
theorem dX4_load_27 : decode cX4_load 27 = .ok (.ifCond .eq 10, 3) := by decide +kernel
theorem dX4_load_30 : decode cX4_load 30 = .ok (.aload_n 0, 1) := by decide +kernel
theorem dX4_load_31 : decode cX4_load 31 = .ok (.ldc 234, 2) := by decide +kernel
theorem dX4_load_33 : decode cX4_load 33 = .ok (.invokevirtual 66, 3) := by decide +kernel
theorem dX4_load_36 : decode cX4_load 36 = .ok (.ireturn, 1) := by decide +kernel
theorem dX4_load_37 : decode cX4_load 37 = .ok (.aload_n 0, 1) := by decide +kernel
theorem dX4_load_38 : decode cX4_load 38 = .ok (.iload_n 2, 1) := by decide +kernel
theorem dX4_load_39 : decode cX4_load 39 = .ok (.invokevirtual 88, 3) := by decide +kernel
theorem dX4_load_42 : decode cX4_load 42 = .ok (.ifCond .eq 10, 3) := by decide +kernel
theorem dX4_load_45 : decode cX4_load 45 = .ok (.iload_n 3, 1) := by decide +kernel
theorem dX4_load_46 : decode cX4_load 46 = .ok (.invokestatic 91, 3) := by decide +kernel
theorem dX4_load_49 : decode cX4_load 49 = .ok (.ifCond .ne 10, 3) := by decide +kernel
theorem dX4_load_52 : decode cX4_load 52 = .ok (.aload_n 0, 1) := by decide +kernel
theorem dX4_load_53 : decode cX4_load 53 = .ok (.ldc 65, 2) := by decide +kernel
theorem dX4_load_55 : decode cX4_load 55 = .ok (.invokevirtual 66, 3) := by decide +kernel
theorem dX4_load_58 : decode cX4_load 58 = .ok (.ireturn, 1) := by decide +kernel
theorem dX4_load_59 : decode cX4_load 59 = .ok (.iconst 0, 1) := by decide +kernel
theorem dX4_load_60 : decode cX4_load 60 = .ok (.istore 5, 2) := by decide +kernel
theorem dX4_load_62 : decode cX4_load 62 = .ok (.iload 5, 2) := by decide +kernel
theorem dX4_load_64 : decode cX4_load 64 = .ok (.aload 4, 2) := by decide +kernel
theorem dX4_load_66 : decode cX4_load 66 = .ok (.getfield 247, 3) := by decide +kernel
theorem dX4_load_69 : decode cX4_load 69 = .ok (.if_icmp .ge 64, 3) := by decide +kernel
theorem dX4_load_72 : decode cX4_load 72 = .ok (.iload 5, 2) := by decide +kernel
theorem dX4_load_74 : decode cX4_load 74 = .ok (.bipush 8, 2) := by decide +kernel
theorem dX4_load_76 : decode cX4_load 76 = .ok (.if_icmp .ge 57, 3) := by decide +kernel
theorem dX4_load_79 : decode cX4_load 79 = .ok (.aload 4, 2) := by decide +kernel
theorem dX4_load_81 : decode cX4_load 81 = .ok (.getfield 263, 3) := by decide +kernel
theorem dX4_load_84 : decode cX4_load 84 = .ok (.iload 5, 2) := by decide +kernel
theorem dX4_load_86 : decode cX4_load 86 = .ok (.iaload, 1) := by decide +kernel
theorem dX4_load_87 : decode cX4_load 87 = .ok (.iconst 0, 1) := by decide +kernel
theorem dX4_load_88 : decode cX4_load 88 = .ok (.aload_n 0, 1) := by decide +kernel
theorem dX4_load_89 : decode cX4_load 89 = .ok (.getfield 12, 3) := by decide +kernel
theorem dX4_load_92 : decode cX4_load 92 = .ok (.getfield 70, 3) := by decide +kernel
theorem dX4_load_95 : decode cX4_load 95 = .ok (.iload 5, 2) := by decide +kernel
theorem dX4_load_97 : decode cX4_load 97 = .ok (.iaload, 1) := by decide +kernel
theorem dX4_load_98 : decode cX4_load 98 = .ok (.invokestatic 61, 3) := by decide +kernel
theorem dX4_load_101 : decode cX4_load 101 = .ok (.ifCond .eq 32, 3) := by decide +kernel
theorem dX4_load_104 : decode cX4_load 104 = .ok (.aload_n 0, 1) := by decide +kernel
theorem dX4_load_105 : decode cX4_load 105 = .ok (.getfield 12, 3) := by decide +kernel
theorem dX4_load_108 : decode cX4_load 108 = .ok (.getfield 98, 3) := by decide +kernel
theorem dX4_load_111 : decode cX4_load 111 = .ok (.iload_n 2, 1) := by decide +kernel
theorem dX4_load_112 : decode cX4_load 112 = .ok (.iload 5, 2) := by decide +kernel
theorem dX4_load_114 : decode cX4_load 114 = .ok (.iload_n 3, 1) := by decide +kernel
theorem dX4_load_115 : decode cX4_load 115 = .ok (.invokestatic 94, 3) := by decide +kernel
theorem dX4_load_118 : decode cX4_load 118 = .ok (.aload 4, 2) := by decide +kernel
theorem dX4_load_120 : decode cX4_load 120 = .ok (.getfield 263, 3) := by decide +kernel
theorem dX4_load_123 : decode cX4_load 123 = .ok (.iload 5, 2) := by decide +kernel
theorem dX4_load_125 : decode cX4_load 125 = .ok (.iaload, 1) := by decide +kernel
theorem dX4_load_126 : decode cX4_load 126 = .ok (.iastore, 1) := by decide +kernel
theorem dX4_load_127 : decode cX4_load 127 = .ok (.iinc 5 1, 3) := by decide +kernel
theorem dX4_load_130 : decode cX4_load 130 = .ok (.goto (-68), 3) := by decide +kernel
theorem dX4_load_133 : decode cX4_load 133 = .ok (.iload 5, 2) := by decide +kernel
theorem dX4_load_135 : decode cX4_load 135 = .ok (.ireturn, 1) := by decide +kernel
theorem dX4_judge_0 : decode cX4_judge 0 = .ok (.iload_n 1, 1) := by decide +kernel
theorem dX4_judge_1 : decode cX4_judge 1 = .ok (.invokestatic 240, 3) := by decide +kernel
theorem dX4_judge_4 : decode cX4_judge 4 = .ok (.ifCond .ne 10, 3) := by decide +kernel
theorem dX4_judge_7 : decode cX4_judge 7 = .ok (.aload_n 0, 1) := by decide +kernel
theorem dX4_judge_8 : decode cX4_judge 8 = .ok (.ldc 65, 2) := by decide +kernel
theorem dX4_judge_10 : decode cX4_judge 10 = .ok (.invokevirtual 66, 3) := by decide +kernel
theorem dX4_judge_13 : decode cX4_judge 13 = .ok (.ireturn, 1) := by decide +kernel
theorem dX4_judge_14 : decode cX4_judge 14 = .ok (.aload_n 0, 1) := by decide +kernel
theorem dX4_judge_15 : decode cX4_judge 15 = .ok (.getfield 38, 3) := by decide +kernel
theorem dX4_judge_18 : decode cX4_judge 18 = .ok (.iload_n 1, 1) := by decide +kernel
theorem dX4_judge_19 : decode cX4_judge 19 = .ok (.aaload, 1) := by decide +kernel
theorem dX4_judge_20 : decode cX4_judge 20 = .ok (.astore_n 3, 1) := by decide +kernel
theorem dX4_judge_21 : decode cX4_judge 21 = .ok (.aload_n 3, 1) := by decide +kernel
theorem dX4_judge_22 : decode cX4_judge 22 = .ok (.invokevirtual 250, 3) := by decide +kernel
theorem dX4_judge_25 : decode cX4_judge 25 = .ok (.ifCond .eq 10, 3) := by decide +kernel
theorem dX4_judge_28 : decode cX4_judge 28 = .ok (.aload_n 0, 1) := by decide +kernel
theorem dX4_judge_29 : decode cX4_judge 29 = .ok (.ldc 234, 2) := by decide +kernel
theorem dX4_judge_31 : decode cX4_judge 31 = .ok (.invokevirtual 66, 3) := by decide +kernel
theorem dX4_judge_34 : decode cX4_judge 34 = .ok (.ireturn, 1) := by decide +kernel
theorem dX4_judge_35 : decode cX4_judge 35 = .ok (.aload_n 0, 1) := by decide +kernel
theorem dX4_judge_36 : decode cX4_judge 36 = .ok (.iload_n 2, 1) := by decide +kernel
theorem dX4_judge_37 : decode cX4_judge 37 = .ok (.invokevirtual 150, 3) := by decide +kernel
theorem dX4_judge_40 : decode cX4_judge 40 = .ok (.ifCond .ne 10, 3) := by decide +kernel
theorem dX4_judge_43 : decode cX4_judge 43 = .ok (.aload_n 0, 1) := by decide +kernel
theorem dX4_judge_44 : decode cX4_judge 44 = .ok (.ldc 65, 2) := by decide +kernel
theorem dX4_judge_46 : decode cX4_judge 46 = .ok (.invokevirtual 66, 3) := by decide +kernel
theorem dX4_judge_49 : decode cX4_judge 49 = .ok (.ireturn, 1) := by decide +kernel
theorem dX4_judge_50 : decode cX4_judge 50 = .ok (.aload_n 0, 1) := by decide +kernel
theorem dX4_judge_51 : decode cX4_judge 51 = .ok (.iload_n 2, 1) := by decide +kernel
theorem dX4_judge_52 : decode cX4_judge 52 = .ok (.invokevirtual 162, 3) := by decide +kernel
theorem dX4_judge_55 : decode cX4_judge 55 = .ok (.iconst 0, 1) := by decide +kernel
theorem dX4_judge_56 : decode cX4_judge 56 = .ok (.istore 4, 2) := by decide +kernel
theorem dX4_judge_58 : decode cX4_judge 58 = .ok (.iload 4, 2) := by decide +kernel
theorem dX4_judge_60 : decode cX4_judge 60 = .ok (.aload_n 3, 1) := by decide +kernel
theorem dX4_judge_61 : decode cX4_judge 61 = .ok (.getfield 247, 3) := by decide +kernel
theorem dX4_judge_64 : decode cX4_judge 64 = .ok (.if_icmp .ge 38, 3) := by decide +kernel
theorem dX4_judge_67 : decode cX4_judge 67 = .ok (.iload 4, 2) := by decide +kernel
theorem dX4_judge_69 : decode cX4_judge 69 = .ok (.aload_n 0, 1) := by decide +kernel
theorem dX4_judge_70 : decode cX4_judge 70 = .ok (.getfield 12, 3) := by decide +kernel
theorem dX4_judge_73 : decode cX4_judge 73 = .ok (.getfield 80, 3) := by decide +kernel
theorem dX4_judge_76 : decode cX4_judge 76 = .ok (.if_icmp .ge 26, 3) := by decide +kernel
theorem dX4_judge_79 : decode cX4_judge 79 = .ok (.aload_n 3, 1) := by decide +kernel
theorem dX4_judge_80 : decode cX4_judge 80 = .ok (.getfield 263, 3) := by decide +kernel
theorem dX4_judge_83 : decode cX4_judge 83 = .ok (.iload 4, 2) := by decide +kernel
theorem dX4_judge_85 : decode cX4_judge 85 = .ok (.iaload, 1) := by decide +kernel
theorem dX4_judge_86 : decode cX4_judge 86 = .ok (.aload_n 0, 1) := by decide +kernel
theorem dX4_judge_87 : decode cX4_judge 87 = .ok (.getfield 42, 3) := by decide +kernel
theorem dX4_judge_90 : decode cX4_judge 90 = .ok (.iload 4, 2) := by decide +kernel
theorem dX4_judge_92 : decode cX4_judge 92 = .ok (.iaload, 1) := by decide +kernel
theorem dX4_judge_93 : decode cX4_judge 93 = .ok (.if_icmp .ne 9, 3) := by decide +kernel
theorem dX4_judge_96 : decode cX4_judge 96 = .ok (.iinc 4 1, 3) := by decide +kernel
theorem dX4_judge_99 : decode cX4_judge 99 = .ok (.goto (-41), 3) := by decide +kernel
theorem dX4_judge_102 : decode cX4_judge 102 = .ok (.iload 4, 2) := by decide +kernel
theorem dX4_judge_104 : decode cX4_judge 104 = .ok (.aload_n 3, 1) := by decide +kernel
theorem dX4_judge_105 : decode cX4_judge 105 = .ok (.getfield 247, 3) := by decide +kernel
theorem dX4_judge_108 : decode cX4_judge 108 = .ok (.if_icmp .ne 19, 3) := by decide +kernel
theorem dX4_judge_111 : decode cX4_judge 111 = .ok (.iload 4, 2) := by decide +kernel
theorem dX4_judge_113 : decode cX4_judge 113 = .ok (.aload_n 0, 1) := by decide +kernel
theorem dX4_judge_114 : decode cX4_judge 114 = .ok (.getfield 12, 3) := by decide +kernel
theorem dX4_judge_117 : decode cX4_judge 117 = .ok (.getfield 80, 3) := by decide +kernel
theorem dX4_judge_120 : decode cX4_judge 120 = .ok (.if_icmp .ne 7, 3) := by decide +kernel
theorem dX4_judge_123 : decode cX4_judge 123 = .ok (.iconst 0, 1) := by decide +kernel
theorem dX4_judge_124 : decode cX4_judge 124 = .ok (.goto 7, 3) := by decide +kernel
theorem dX4_judge_127 : decode cX4_judge 127 = .ok (.iconst 1, 1) := by decide +kernel
theorem dX4_judge_128 : decode cX4_judge 128 = .ok (.iload 4, 2) := by decide +kernel
theorem dX4_judge_130 : decode cX4_judge 130 = .ok (.iadd, 1) := by decide +kernel
theorem dX4_judge_131 : decode cX4_judge 131 = .ok (.ireturn, 1) := by decide +kernel
theorem dX4_image_0 : decode cX4_image 0 = .ok (.aload_n 0, 1) := by decide +kernel
theorem dX4_image_1 : decode cX4_image 1 = .ok (.getfield 16, 3) := by decide +kernel
theorem dX4_image_4 : decode cX4_image 4 = .ok (.aload_n 0, 1) := by decide +kernel
theorem dX4_image_5 : decode cX4_image 5 = .ok (.getfield 12, 3) := by decide +kernel
theorem dX4_image_8 : decode cX4_image 8 = .ok (.invokevirtual 221, 3) := by decide +kernel
theorem dX4_image_11 : decode cX4_image 11 = .ok (.aload_n 0, 1) := by decide +kernel
theorem dX4_image_12 : decode cX4_image 12 = .ok (.iconst 1, 1) := by decide +kernel
theorem dX4_image_13 : decode cX4_image 13 = .ok (.putfield 52, 3) := by decide +kernel
theorem dX4_image_16 : decode cX4_image 16 = .ok (.iconst 1, 1) := by decide +kernel
theorem dX4_image_17 : decode cX4_image 17 = .ok (.ireturn, 1) := by decide +kernel
theorem dX4_undo_0 : decode cX4_undo 0 = .ok (.aload_n 0, 1) := by decide +kernel
theorem dX4_undo_1 : decode cX4_undo 1 = .ok (.getfield 52, 3) := by decide +kernel
theorem dX4_undo_4 : decode cX4_undo 4 = .ok (.ifCond .ne 10, 3) := by decide +kernel
theorem dX4_undo_7 : decode cX4_undo 7 = .ok (.aload_n 0, 1) := by decide +kernel
theorem dX4_undo_8 : decode cX4_undo 8 = .ok (.ldc 111, 2) := by decide +kernel
theorem dX4_undo_10 : decode cX4_undo 10 = .ok (.invokevirtual 66, 3) := by decide +kernel
theorem dX4_undo_13 : decode cX4_undo 13 = .ok (.ireturn, 1) := by decide +kernel
theorem dX4_undo_14 : decode cX4_undo 14 = .ok (.aload_n 0, 1) := by decide +kernel
theorem dX4_undo_15 : decode cX4_undo 15 = .ok (.getfield 12, 3) := by decide +kernel
theorem dX4_undo_18 : decode cX4_undo 18 = .ok (.aload_n 0, 1) := by decide +kernel
theorem dX4_undo_19 : decode cX4_undo 19 = .ok (.getfield 16, 3) := by decide +kernel
theorem dX4_undo_22 : decode cX4_undo 22 = .ok (.invokevirtual 221, 3) := by decide +kernel
theorem dX4_undo_25 : decode cX4_undo 25 = .ok (.aload_n 0, 1) := by decide +kernel
theorem dX4_undo_26 : decode cX4_undo 26 = .ok (.getfield 12, 3) := by decide +kernel
theorem dX4_undo_29 : decode cX4_undo 29 = .ok (.getfield 80, 3) := by decide +kernel
theorem dX4_undo_32 : decode cX4_undo 32 = .ok (.ireturn, 1) := by decide +kernel
theorem dX4_tear_0 : decode cX4_tear 0 = .ok (.aload_n 0, 1) := by decide +kernel
theorem dX4_tear_1 : decode cX4_tear 1 = .ok (.getfield 52, 3) := by decide +kernel
theorem dX4_tear_4 : decode cX4_tear 4 = .ok (.ifCond .eq 7, 3) := by decide +kernel
theorem dX4_tear_7 : decode cX4_tear 7 = .ok (.iconst 1, 1) := by decide +kernel
theorem dX4_tear_8 : decode cX4_tear 8 = .ok (.goto 4, 3) := by decide +kernel
theorem dX4_tear_11 : decode cX4_tear 11 = .ok (.iconst 0, 1) := by decide +kernel
theorem dX4_tear_12 : decode cX4_tear 12 = .ok (.istore_n 1, 1) := by decide +kernel
theorem dX4_tear_13 : decode cX4_tear 13 = .ok (.aload_n 0, 1) := by decide +kernel
theorem dX4_tear_14 : decode cX4_tear 14 = .ok (.iconst 0, 1) := by decide +kernel
theorem dX4_tear_15 : decode cX4_tear 15 = .ok (.putfield 52, 3) := by decide +kernel
theorem dX4_tear_18 : decode cX4_tear 18 = .ok (.iload_n 1, 1) := by decide +kernel
theorem dX4_tear_19 : decode cX4_tear 19 = .ok (.ireturn, 1) := by decide +kernel
theorem dX4_count_0 : decode cX4_count 0 = .ok (.iload_n 1, 1) := by decide +kernel
theorem dX4_count_1 : decode cX4_count 1 = .ok (.tableswitch 90 0 5 #[39, 47, 55, 66, 74, 82], 39) := by decide +kernel
theorem dX4_count_40 : decode cX4_count 40 = .ok (.aload_n 0, 1) := by decide +kernel
theorem dX4_count_41 : decode cX4_count 41 = .ok (.getfield 12, 3) := by decide +kernel
theorem dX4_count_44 : decode cX4_count 44 = .ok (.getfield 80, 3) := by decide +kernel
theorem dX4_count_47 : decode cX4_count 47 = .ok (.ireturn, 1) := by decide +kernel
theorem dX4_count_48 : decode cX4_count 48 = .ok (.aload_n 0, 1) := by decide +kernel
theorem dX4_count_49 : decode cX4_count 49 = .ok (.getfield 12, 3) := by decide +kernel
theorem dX4_count_52 : decode cX4_count 52 = .ok (.getfield 144, 3) := by decide +kernel
theorem dX4_count_55 : decode cX4_count 55 = .ok (.ireturn, 1) := by decide +kernel
theorem dX4_count_56 : decode cX4_count 56 = .ok (.aload_n 0, 1) := by decide +kernel
theorem dX4_count_57 : decode cX4_count 57 = .ok (.getfield 12, 3) := by decide +kernel
theorem dX4_count_60 : decode cX4_count 60 = .ok (.invokevirtual 272, 3) := by decide +kernel
theorem dX4_count_63 : decode cX4_count 63 = .ok (.invokestatic 275, 3) := by decide +kernel
theorem dX4_count_66 : decode cX4_count 66 = .ok (.ireturn, 1) := by decide +kernel
theorem dX4_count_67 : decode cX4_count 67 = .ok (.aload_n 0, 1) := by decide +kernel
theorem dX4_count_68 : decode cX4_count 68 = .ok (.getfield 32, 3) := by decide +kernel
theorem dX4_count_71 : decode cX4_count 71 = .ok (.getfield 215, 3) := by decide +kernel
theorem dX4_count_74 : decode cX4_count 74 = .ok (.ireturn, 1) := by decide +kernel
theorem dX4_count_75 : decode cX4_count 75 = .ok (.aload_n 0, 1) := by decide +kernel
theorem dX4_count_76 : decode cX4_count 76 = .ok (.getfield 12, 3) := by decide +kernel
theorem dX4_count_79 : decode cX4_count 79 = .ok (.getfield 212, 3) := by decide +kernel
theorem dX4_count_82 : decode cX4_count 82 = .ok (.ireturn, 1) := by decide +kernel
theorem dX4_count_83 : decode cX4_count 83 = .ok (.aload_n 0, 1) := by decide +kernel
theorem dX4_count_84 : decode cX4_count 84 = .ok (.getfield 12, 3) := by decide +kernel
theorem dX4_count_87 : decode cX4_count 87 = .ok (.invokevirtual 280, 3) := by decide +kernel
theorem dX4_count_90 : decode cX4_count 90 = .ok (.ireturn, 1) := by decide +kernel
theorem dX4_count_91 : decode cX4_count 91 = .ok (.aload_n 0, 1) := by decide +kernel
theorem dX4_count_92 : decode cX4_count 92 = .ok (.ldc 65, 2) := by decide +kernel
theorem dX4_count_94 : decode cX4_count 94 = .ok (.invokevirtual 66, 3) := by decide +kernel
theorem dX4_count_97 : decode cX4_count 97 = .ok (.ireturn, 1) := by decide +kernel
theorem dX4_status_0 : decode cX4_status 0 = .ok (.iload_n 1, 1) := by decide +kernel
theorem dX4_status_1 : decode cX4_status 1 = .ok (.iconst (-1), 1) := by decide +kernel
theorem dX4_status_2 : decode cX4_status 2 = .ok (.bipush 6, 2) := by decide +kernel
theorem dX4_status_4 : decode cX4_status 4 = .ok (.invokestatic 61, 3) := by decide +kernel
theorem dX4_status_7 : decode cX4_status 7 = .ok (.ifCond .ne 10, 3) := by decide +kernel
theorem dX4_status_10 : decode cX4_status 10 = .ok (.aload_n 0, 1) := by decide +kernel
theorem dX4_status_11 : decode cX4_status 11 = .ok (.ldc 65, 2) := by decide +kernel
theorem dX4_status_13 : decode cX4_status 13 = .ok (.invokevirtual 66, 3) := by decide +kernel
theorem dX4_status_16 : decode cX4_status 16 = .ok (.ireturn, 1) := by decide +kernel
theorem dX4_status_17 : decode cX4_status 17 = .ok (.iload_n 1, 1) := by decide +kernel
theorem dX4_status_18 : decode cX4_status 18 = .ok (.ifCond .lt 10, 3) := by decide +kernel
theorem dX4_status_21 : decode cX4_status 21 = .ok (.aload_n 0, 1) := by decide +kernel
theorem dX4_status_22 : decode cX4_status 22 = .ok (.getfield 49, 3) := by decide +kernel
theorem dX4_status_25 : decode cX4_status 25 = .ok (.iload_n 1, 1) := by decide +kernel
theorem dX4_status_26 : decode cX4_status 26 = .ok (.iaload, 1) := by decide +kernel
theorem dX4_status_27 : decode cX4_status 27 = .ok (.ireturn, 1) := by decide +kernel
theorem dX4_status_28 : decode cX4_status 28 = .ok (.iconst 0, 1) := by decide +kernel
theorem dX4_status_29 : decode cX4_status 29 = .ok (.istore_n 2, 1) := by decide +kernel
theorem dX4_status_30 : decode cX4_status 30 = .ok (.iconst 0, 1) := by decide +kernel
theorem dX4_status_31 : decode cX4_status 31 = .ok (.istore_n 3, 1) := by decide +kernel
theorem dX4_status_32 : decode cX4_status 32 = .ok (.iload_n 3, 1) := by decide +kernel
theorem dX4_status_33 : decode cX4_status 33 = .ok (.bipush 7, 2) := by decide +kernel
theorem dX4_status_35 : decode cX4_status 35 = .ok (.if_icmp .ge 18, 3) := by decide +kernel
theorem dX4_status_38 : decode cX4_status 38 = .ok (.iload_n 2, 1) := by decide +kernel
theorem dX4_status_39 : decode cX4_status 39 = .ok (.aload_n 0, 1) := by decide +kernel
theorem dX4_status_40 : decode cX4_status 40 = .ok (.getfield 49, 3) := by decide +kernel
theorem dX4_status_43 : decode cX4_status 43 = .ok (.iload_n 3, 1) := by decide +kernel
theorem dX4_status_44 : decode cX4_status 44 = .ok (.iaload, 1) := by decide +kernel
theorem dX4_status_45 : decode cX4_status 45 = .ok (.iadd, 1) := by decide +kernel
theorem dX4_status_46 : decode cX4_status 46 = .ok (.istore_n 2, 1) := by decide +kernel
theorem dX4_status_47 : decode cX4_status 47 = .ok (.iinc 3 1, 3) := by decide +kernel
theorem dX4_status_50 : decode cX4_status 50 = .ok (.goto (-18), 3) := by decide +kernel
theorem dX4_status_53 : decode cX4_status 53 = .ok (.iload_n 2, 1) := by decide +kernel
theorem dX4_status_54 : decode cX4_status 54 = .ok (.ireturn, 1) := by decide +kernel
theorem dX4_tell_0 : decode cX4_tell 0 = .ok (.ldc 65, 2) := by decide +kernel
theorem dX4_tell_2 : decode cX4_tell 2 = .ok (.iload_n 1, 1) := by decide +kernel
theorem dX4_tell_3 : decode cX4_tell 3 = .ok (.isub, 1) := by decide +kernel
theorem dX4_tell_4 : decode cX4_tell 4 = .ok (.istore_n 2, 1) := by decide +kernel
theorem dX4_tell_5 : decode cX4_tell 5 = .ok (.iload_n 2, 1) := by decide +kernel
theorem dX4_tell_6 : decode cX4_tell 6 = .ok (.iconst 0, 1) := by decide +kernel
theorem dX4_tell_7 : decode cX4_tell 7 = .ok (.bipush 6, 2) := by decide +kernel
theorem dX4_tell_9 : decode cX4_tell 9 = .ok (.invokestatic 61, 3) := by decide +kernel
theorem dX4_tell_12 : decode cX4_tell 12 = .ok (.ifCond .eq 13, 3) := by decide +kernel
theorem dX4_tell_15 : decode cX4_tell 15 = .ok (.aload_n 0, 1) := by decide +kernel
theorem dX4_tell_16 : decode cX4_tell 16 = .ok (.getfield 49, 3) := by decide +kernel
theorem dX4_tell_19 : decode cX4_tell 19 = .ok (.iload_n 2, 1) := by decide +kernel
theorem dX4_tell_20 : decode cX4_tell 20 = .ok (.dup2, 1) := by decide +kernel
theorem dX4_tell_21 : decode cX4_tell 21 = .ok (.iaload, 1) := by decide +kernel
theorem dX4_tell_22 : decode cX4_tell 22 = .ok (.iconst 1, 1) := by decide +kernel
theorem dX4_tell_23 : decode cX4_tell 23 = .ok (.iadd, 1) := by decide +kernel
theorem dX4_tell_24 : decode cX4_tell 24 = .ok (.iastore, 1) := by decide +kernel
theorem dX4_tell_25 : decode cX4_tell 25 = .ok (.iload_n 1, 1) := by decide +kernel
theorem dX4_tell_26 : decode cX4_tell 26 = .ok (.ireturn, 1) := by decide +kernel
theorem dX4_within_0 : decode cX4_within 0 = .ok (.iload_n 0, 1) := by decide +kernel
theorem dX4_within_1 : decode cX4_within 1 = .ok (.iload_n 1, 1) := by decide +kernel
theorem dX4_within_2 : decode cX4_within 2 = .ok (.if_icmp .lt 12, 3) := by decide +kernel
theorem dX4_within_5 : decode cX4_within 5 = .ok (.iload_n 0, 1) := by decide +kernel
theorem dX4_within_6 : decode cX4_within 6 = .ok (.iload_n 2, 1) := by decide +kernel
theorem dX4_within_7 : decode cX4_within 7 = .ok (.if_icmp .gt 7, 3) := by decide +kernel
theorem dX4_within_10 : decode cX4_within 10 = .ok (.iconst 1, 1) := by decide +kernel
theorem dX4_within_11 : decode cX4_within 11 = .ok (.goto 4, 3) := by decide +kernel
theorem dX4_within_14 : decode cX4_within 14 = .ok (.iconst 0, 1) := by decide +kernel
theorem dX4_within_15 : decode cX4_within 15 = .ok (.ireturn, 1) := by decide +kernel
theorem dX4_isQuestion_0 : decode cX4_isQuestion 0 = .ok (.iload_n 0, 1) := by decide +kernel
theorem dX4_isQuestion_1 : decode cX4_isQuestion 1 = .ok (.iconst 0, 1) := by decide +kernel
theorem dX4_isQuestion_2 : decode cX4_isQuestion 2 = .ok (.bipush 7, 2) := by decide +kernel
theorem dX4_isQuestion_4 : decode cX4_isQuestion 4 = .ok (.invokestatic 61, 3) := by decide +kernel
theorem dX4_isQuestion_7 : decode cX4_isQuestion 7 = .ok (.ireturn, 1) := by decide +kernel
theorem dX4_isMarker_0 : decode cX4_isMarker 0 = .ok (.iload_n 0, 1) := by decide +kernel
theorem dX4_isMarker_1 : decode cX4_isMarker 1 = .ok (.iconst 0, 1) := by decide +kernel
theorem dX4_isMarker_2 : decode cX4_isMarker 2 = .ok (.iconst 1, 1) := by decide +kernel
theorem dX4_isMarker_3 : decode cX4_isMarker 3 = .ok (.invokestatic 61, 3) := by decide +kernel
theorem dX4_isMarker_6 : decode cX4_isMarker 6 = .ok (.ireturn, 1) := by decide +kernel
theorem dX4_isKind_0 : decode cX4_isKind 0 = .ok (.iload_n 0, 1) := by decide +kernel
theorem dX4_isKind_1 : decode cX4_isKind 1 = .ok (.iconst 0, 1) := by decide +kernel
theorem dX4_isKind_2 : decode cX4_isKind 2 = .ok (.bipush 6, 2) := by decide +kernel
theorem dX4_isKind_4 : decode cX4_isKind 4 = .ok (.invokestatic 61, 3) := by decide +kernel
theorem dX4_isKind_7 : decode cX4_isKind 7 = .ok (.ireturn, 1) := by decide +kernel
theorem dX4_isBy_0 : decode cX4_isBy 0 = .ok (.iload_n 0, 1) := by decide +kernel
theorem dX4_isBy_1 : decode cX4_isBy 1 = .ok (.iconst 0, 1) := by decide +kernel
theorem dX4_isBy_2 : decode cX4_isBy 2 = .ok (.bipush 100, 2) := by decide +kernel
theorem dX4_isBy_4 : decode cX4_isBy 4 = .ok (.invokestatic 61, 3) := by decide +kernel
theorem dX4_isBy_7 : decode cX4_isBy 7 = .ok (.ireturn, 1) := by decide +kernel
theorem dX4_isLine_0 : decode cX4_isLine 0 = .ok (.iload_n 0, 1) := by decide +kernel
theorem dX4_isLine_1 : decode cX4_isLine 1 = .ok (.iconst 0, 1) := by decide +kernel
theorem dX4_isLine_2 : decode cX4_isLine 2 = .ok (.sipush 400, 3) := by decide +kernel
theorem dX4_isLine_5 : decode cX4_isLine 5 = .ok (.invokestatic 61, 3) := by decide +kernel
theorem dX4_isLine_8 : decode cX4_isLine 8 = .ok (.ireturn, 1) := by decide +kernel
theorem dX4_isSpot_0 : decode cX4_isSpot 0 = .ok (.iload_n 0, 1) := by decide +kernel
theorem dX4_isSpot_1 : decode cX4_isSpot 1 = .ok (.iconst 0, 1) := by decide +kernel
theorem dX4_isSpot_2 : decode cX4_isSpot 2 = .ok (.bipush 9, 2) := by decide +kernel
theorem dX4_isSpot_4 : decode cX4_isSpot 4 = .ok (.invokestatic 61, 3) := by decide +kernel
theorem dX4_isSpot_7 : decode cX4_isSpot 7 = .ok (.ireturn, 1) := by decide +kernel
theorem dX4_isSheet_0 : decode cX4_isSheet 0 = .ok (.iload_n 0, 1) := by decide +kernel
theorem dX4_isSheet_1 : decode cX4_isSheet 1 = .ok (.iconst 0, 1) := by decide +kernel
theorem dX4_isSheet_2 : decode cX4_isSheet 2 = .ok (.iconst 3, 1) := by decide +kernel
theorem dX4_isSheet_3 : decode cX4_isSheet 3 = .ok (.invokestatic 61, 3) := by decide +kernel
theorem dX4_isSheet_6 : decode cX4_isSheet 6 = .ok (.ireturn, 1) := by decide +kernel
theorem dX4_isPupil_0 : decode cX4_isPupil 0 = .ok (.iload_n 1, 1) := by decide +kernel
theorem dX4_isPupil_1 : decode cX4_isPupil 1 = .ok (.iconst 0, 1) := by decide +kernel
theorem dX4_isPupil_2 : decode cX4_isPupil 2 = .ok (.aload_n 0, 1) := by decide +kernel
theorem dX4_isPupil_3 : decode cX4_isPupil 3 = .ok (.getfield 12, 3) := by decide +kernel
theorem dX4_isPupil_6 : decode cX4_isPupil 6 = .ok (.getfield 80, 3) := by decide +kernel
theorem dX4_isPupil_9 : decode cX4_isPupil 9 = .ok (.iconst 1, 1) := by decide +kernel
theorem dX4_isPupil_10 : decode cX4_isPupil 10 = .ok (.isub, 1) := by decide +kernel
theorem dX4_isPupil_11 : decode cX4_isPupil 11 = .ok (.invokestatic 61, 3) := by decide +kernel
theorem dX4_isPupil_14 : decode cX4_isPupil 14 = .ok (.ireturn, 1) := by decide +kernel
theorem dX4_isCurve_0 : decode cX4_isCurve 0 = .ok (.iload_n 1, 1) := by decide +kernel
theorem dX4_isCurve_1 : decode cX4_isCurve 1 = .ok (.iconst 0, 1) := by decide +kernel
theorem dX4_isCurve_2 : decode cX4_isCurve 2 = .ok (.aload_n 0, 1) := by decide +kernel
theorem dX4_isCurve_3 : decode cX4_isCurve 3 = .ok (.getfield 12, 3) := by decide +kernel
theorem dX4_isCurve_6 : decode cX4_isCurve 6 = .ok (.getfield 144, 3) := by decide +kernel
theorem dX4_isCurve_9 : decode cX4_isCurve 9 = .ok (.iconst 1, 1) := by decide +kernel
theorem dX4_isCurve_10 : decode cX4_isCurve 10 = .ok (.isub, 1) := by decide +kernel
theorem dX4_isCurve_11 : decode cX4_isCurve 11 = .ok (.invokestatic 61, 3) := by decide +kernel
theorem dX4_isCurve_14 : decode cX4_isCurve 14 = .ok (.ireturn, 1) := by decide +kernel
theorem dX4_spotOfPoint_0 : decode cX4_spotOfPoint 0 = .ok (.iload_n 0, 1) := by decide +kernel
theorem dX4_spotOfPoint_1 : decode cX4_spotOfPoint 1 = .ok (.bipush 8, 2) := by decide +kernel
theorem dX4_spotOfPoint_3 : decode cX4_spotOfPoint 3 = .ok (.imul, 1) := by decide +kernel
theorem dX4_spotOfPoint_4 : decode cX4_spotOfPoint 4 = .ok (.iload_n 1, 1) := by decide +kernel
theorem dX4_spotOfPoint_5 : decode cX4_spotOfPoint 5 = .ok (.iadd, 1) := by decide +kernel
theorem dX4_spotOfPoint_6 : decode cX4_spotOfPoint 6 = .ok (.iconst 2, 1) := by decide +kernel
theorem dX4_spotOfPoint_7 : decode cX4_spotOfPoint 7 = .ok (.imul, 1) := by decide +kernel
theorem dX4_spotOfPoint_8 : decode cX4_spotOfPoint 8 = .ok (.iload_n 2, 1) := by decide +kernel
theorem dX4_spotOfPoint_9 : decode cX4_spotOfPoint 9 = .ok (.iadd, 1) := by decide +kernel
theorem dX4_spotOfPoint_10 : decode cX4_spotOfPoint 10 = .ok (.ireturn, 1) := by decide +kernel
theorem dX4_isUnder_0 : decode cX4_isUnder 0 = .ok (.iload_n 0, 1) := by decide +kernel
theorem dX4_isUnder_1 : decode cX4_isUnder 1 = .ok (.istore_n 2, 1) := by decide +kernel
theorem dX4_isUnder_2 : decode cX4_isUnder 2 = .ok (.iconst 0, 1) := by decide +kernel
theorem dX4_isUnder_3 : decode cX4_isUnder 3 = .ok (.istore_n 3, 1) := by decide +kernel
theorem dX4_isUnder_4 : decode cX4_isUnder 4 = .ok (.iload_n 3, 1) := by decide +kernel
theorem dX4_isUnder_5 : decode cX4_isUnder 5 = .ok (.bipush 7, 2) := by decide +kernel
theorem dX4_isUnder_7 : decode cX4_isUnder 7 = .ok (.if_icmp .ge 29, 3) := by decide +kernel
theorem dX4_isUnder_10 : decode cX4_isUnder 10 = .ok (.iload_n 2, 1) := by decide +kernel
theorem dX4_isUnder_11 : decode cX4_isUnder 11 = .ok (.invokestatic 138, 3) := by decide +kernel
theorem dX4_isUnder_14 : decode cX4_isUnder 14 = .ok (.ifCond .eq 22, 3) := by decide +kernel
theorem dX4_isUnder_17 : decode cX4_isUnder 17 = .ok (.iload_n 2, 1) := by decide +kernel
theorem dX4_isUnder_18 : decode cX4_isUnder 18 = .ok (.iload_n 1, 1) := by decide +kernel
theorem dX4_isUnder_19 : decode cX4_isUnder 19 = .ok (.if_icmp .ne 5, 3) := by decide +kernel
theorem dX4_isUnder_22 : decode cX4_isUnder 22 = .ok (.iconst 1, 1) := by decide +kernel
theorem dX4_isUnder_23 : decode cX4_isUnder 23 = .ok (.ireturn, 1) := by decide +kernel
theorem dX4_isUnder_24 : decode cX4_isUnder 24 = .ok (.getstatic 283, 3) := by decide +kernel
theorem dX4_isUnder_27 : decode cX4_isUnder 27 = .ok (.iload_n 2, 1) := by decide +kernel
theorem dX4_isUnder_28 : decode cX4_isUnder 28 = .ok (.iaload, 1) := by decide +kernel
theorem dX4_isUnder_29 : decode cX4_isUnder 29 = .ok (.istore_n 2, 1) := by decide +kernel
theorem dX4_isUnder_30 : decode cX4_isUnder 30 = .ok (.iinc 3 1, 3) := by decide +kernel
theorem dX4_isUnder_33 : decode cX4_isUnder 33 = .ok (.goto (-29), 3) := by decide +kernel
theorem dX4_isUnder_36 : decode cX4_isUnder 36 = .ok (.iconst 0, 1) := by decide +kernel
theorem dX4_isUnder_37 : decode cX4_isUnder 37 = .ok (.ireturn, 1) := by decide +kernel
theorem dX4_workOut_0 : decode cX4_workOut 0 = .ok (.aload_n 0, 1) := by decide +kernel
theorem dX4_workOut_1 : decode cX4_workOut 1 = .ok (.getfield 25, 3) := by decide +kernel
theorem dX4_workOut_4 : decode cX4_workOut 4 = .ok (.aload_n 0, 1) := by decide +kernel
theorem dX4_workOut_5 : decode cX4_workOut 5 = .ok (.getfield 12, 3) := by decide +kernel
theorem dX4_workOut_8 : decode cX4_workOut 8 = .ok (.invokevirtual 112, 3) := by decide +kernel
theorem dX4_workOut_11 : decode cX4_workOut 11 = .ok (.aload_n 0, 1) := by decide +kernel
theorem dX4_workOut_12 : decode cX4_workOut 12 = .ok (.getfield 25, 3) := by decide +kernel
theorem dX4_workOut_15 : decode cX4_workOut 15 = .ok (.aload_n 0, 1) := by decide +kernel
theorem dX4_workOut_16 : decode cX4_workOut 16 = .ok (.getfield 12, 3) := by decide +kernel
theorem dX4_workOut_19 : decode cX4_workOut 19 = .ok (.getfield 153, 3) := by decide +kernel
theorem dX4_workOut_22 : decode cX4_workOut 22 = .ok (.iload_n 1, 1) := by decide +kernel
theorem dX4_workOut_23 : decode cX4_workOut 23 = .ok (.iaload, 1) := by decide +kernel
theorem dX4_workOut_24 : decode cX4_workOut 24 = .ok (.aload_n 0, 1) := by decide +kernel
theorem dX4_workOut_25 : decode cX4_workOut 25 = .ok (.getfield 12, 3) := by decide +kernel
theorem dX4_workOut_28 : decode cX4_workOut 28 = .ok (.getfield 156, 3) := by decide +kernel
theorem dX4_workOut_31 : decode cX4_workOut 31 = .ok (.iload_n 1, 1) := by decide +kernel
theorem dX4_workOut_32 : decode cX4_workOut 32 = .ok (.iaload, 1) := by decide +kernel
theorem dX4_workOut_33 : decode cX4_workOut 33 = .ok (.aload_n 0, 1) := by decide +kernel
theorem dX4_workOut_34 : decode cX4_workOut 34 = .ok (.getfield 42, 3) := by decide +kernel
theorem dX4_workOut_37 : decode cX4_workOut 37 = .ok (.invokevirtual 185, 3) := by decide +kernel
theorem dX4_workOut_40 : decode cX4_workOut 40 = .ok (.return_, 1) := by decide +kernel
theorem dX4_marksFrom_0 : decode cX4_marksFrom 0 = .ok (.iconst 0, 1) := by decide +kernel
theorem dX4_marksFrom_1 : decode cX4_marksFrom 1 = .ok (.istore_n 2, 1) := by decide +kernel
theorem dX4_marksFrom_2 : decode cX4_marksFrom 2 = .ok (.iconst 0, 1) := by decide +kernel
theorem dX4_marksFrom_3 : decode cX4_marksFrom 3 = .ok (.istore_n 3, 1) := by decide +kernel
theorem dX4_marksFrom_4 : decode cX4_marksFrom 4 = .ok (.iload_n 3, 1) := by decide +kernel
theorem dX4_marksFrom_5 : decode cX4_marksFrom 5 = .ok (.aload_n 0, 1) := by decide +kernel
theorem dX4_marksFrom_6 : decode cX4_marksFrom 6 = .ok (.getfield 12, 3) := by decide +kernel
theorem dX4_marksFrom_9 : decode cX4_marksFrom 9 = .ok (.getfield 80, 3) := by decide +kernel
theorem dX4_marksFrom_12 : decode cX4_marksFrom 12 = .ok (.if_icmp .ge 22, 3) := by decide +kernel
theorem dX4_marksFrom_15 : decode cX4_marksFrom 15 = .ok (.aload_n 0, 1) := by decide +kernel
theorem dX4_marksFrom_16 : decode cX4_marksFrom 16 = .ok (.getfield 42, 3) := by decide +kernel
theorem dX4_marksFrom_19 : decode cX4_marksFrom 19 = .ok (.iload_n 3, 1) := by decide +kernel
theorem dX4_marksFrom_20 : decode cX4_marksFrom 20 = .ok (.iaload, 1) := by decide +kernel
theorem dX4_marksFrom_21 : decode cX4_marksFrom 21 = .ok (.iload_n 1, 1) := by decide +kernel
theorem dX4_marksFrom_22 : decode cX4_marksFrom 22 = .ok (.if_icmp .lt 6, 3) := by decide +kernel
theorem dX4_marksFrom_25 : decode cX4_marksFrom 25 = .ok (.iinc 2 1, 3) := by decide +kernel
theorem dX4_marksFrom_28 : decode cX4_marksFrom 28 = .ok (.iinc 3 1, 3) := by decide +kernel
theorem dX4_marksFrom_31 : decode cX4_marksFrom 31 = .ok (.goto (-27), 3) := by decide +kernel
theorem dX4_marksFrom_34 : decode cX4_marksFrom 34 = .ok (.iload_n 2, 1) := by decide +kernel
theorem dX4_marksFrom_35 : decode cX4_marksFrom 35 = .ok (.ireturn, 1) := by decide +kernel
theorem dX4_greatestReachedBy_0 : decode cX4_greatestReachedBy 0 = .ok (.iconst 0, 1) := by decide +kernel
theorem dX4_greatestReachedBy_1 : decode cX4_greatestReachedBy 1 = .ok (.istore_n 2, 1) := by decide +kernel
theorem dX4_greatestReachedBy_2 : decode cX4_greatestReachedBy 2 = .ok (.iconst 0, 1) := by decide +kernel
theorem dX4_greatestReachedBy_3 : decode cX4_greatestReachedBy 3 = .ok (.istore_n 3, 1) := by decide +kernel
theorem dX4_greatestReachedBy_4 : decode cX4_greatestReachedBy 4 = .ok (.iload_n 3, 1) := by decide +kernel
theorem dX4_greatestReachedBy_5 : decode cX4_greatestReachedBy 5 = .ok (.aload_n 0, 1) := by decide +kernel
theorem dX4_greatestReachedBy_6 : decode cX4_greatestReachedBy 6 = .ok (.getfield 12, 3) := by decide +kernel
theorem dX4_greatestReachedBy_9 : decode cX4_greatestReachedBy 9 = .ok (.getfield 80, 3) := by decide +kernel
theorem dX4_greatestReachedBy_12 : decode cX4_greatestReachedBy 12 = .ok (.if_icmp .ge 40, 3) := by decide +kernel
theorem dX4_greatestReachedBy_15 : decode cX4_greatestReachedBy 15 = .ok (.aload_n 0, 1) := by decide +kernel
theorem dX4_greatestReachedBy_16 : decode cX4_greatestReachedBy 16 = .ok (.getfield 42, 3) := by decide +kernel
theorem dX4_greatestReachedBy_19 : decode cX4_greatestReachedBy 19 = .ok (.iload_n 3, 1) := by decide +kernel
theorem dX4_greatestReachedBy_20 : decode cX4_greatestReachedBy 20 = .ok (.iaload, 1) := by decide +kernel
theorem dX4_greatestReachedBy_21 : decode cX4_greatestReachedBy 21 = .ok (.iload_n 2, 1) := by decide +kernel
theorem dX4_greatestReachedBy_22 : decode cX4_greatestReachedBy 22 = .ok (.if_icmp .le 24, 3) := by decide +kernel
theorem dX4_greatestReachedBy_25 : decode cX4_greatestReachedBy 25 = .ok (.aload_n 0, 1) := by decide +kernel
theorem dX4_greatestReachedBy_26 : decode cX4_greatestReachedBy 26 = .ok (.aload_n 0, 1) := by decide +kernel
theorem dX4_greatestReachedBy_27 : decode cX4_greatestReachedBy 27 = .ok (.getfield 42, 3) := by decide +kernel
theorem dX4_greatestReachedBy_30 : decode cX4_greatestReachedBy 30 = .ok (.iload_n 3, 1) := by decide +kernel
theorem dX4_greatestReachedBy_31 : decode cX4_greatestReachedBy 31 = .ok (.iaload, 1) := by decide +kernel
theorem dX4_greatestReachedBy_32 : decode cX4_greatestReachedBy 32 = .ok (.invokevirtual 166, 3) := by decide +kernel
theorem dX4_greatestReachedBy_35 : decode cX4_greatestReachedBy 35 = .ok (.iload_n 1, 1) := by decide +kernel
theorem dX4_greatestReachedBy_36 : decode cX4_greatestReachedBy 36 = .ok (.if_icmp .lt 10, 3) := by decide +kernel
theorem dX4_greatestReachedBy_39 : decode cX4_greatestReachedBy 39 = .ok (.aload_n 0, 1) := by decide +kernel
theorem dX4_greatestReachedBy_40 : decode cX4_greatestReachedBy 40 = .ok (.getfield 42, 3) := by decide +kernel
theorem dX4_greatestReachedBy_43 : decode cX4_greatestReachedBy 43 = .ok (.iload_n 3, 1) := by decide +kernel
theorem dX4_greatestReachedBy_44 : decode cX4_greatestReachedBy 44 = .ok (.iaload, 1) := by decide +kernel
theorem dX4_greatestReachedBy_45 : decode cX4_greatestReachedBy 45 = .ok (.istore_n 2, 1) := by decide +kernel
theorem dX4_greatestReachedBy_46 : decode cX4_greatestReachedBy 46 = .ok (.iinc 3 1, 3) := by decide +kernel
theorem dX4_greatestReachedBy_49 : decode cX4_greatestReachedBy 49 = .ok (.goto (-45), 3) := by decide +kernel
theorem dX4_greatestReachedBy_52 : decode cX4_greatestReachedBy 52 = .ok (.iload_n 2, 1) := by decide +kernel
theorem dX4_greatestReachedBy_53 : decode cX4_greatestReachedBy 53 = .ok (.ireturn, 1) := by decide +kernel
theorem dX4_firstBreak_0 : decode cX4_firstBreak 0 = .ok (.aload_n 0, 1) := by decide +kernel
theorem dX4_firstBreak_1 : decode cX4_firstBreak 1 = .ok (.iload_n 1, 1) := by decide +kernel
theorem dX4_firstBreak_2 : decode cX4_firstBreak 2 = .ok (.invokevirtual 162, 3) := by decide +kernel
theorem dX4_firstBreak_5 : decode cX4_firstBreak 5 = .ok (.iconst 0, 1) := by decide +kernel
theorem dX4_firstBreak_6 : decode cX4_firstBreak 6 = .ok (.istore_n 2, 1) := by decide +kernel
theorem dX4_firstBreak_7 : decode cX4_firstBreak 7 = .ok (.iload_n 2, 1) := by decide +kernel
theorem dX4_firstBreak_8 : decode cX4_firstBreak 8 = .ok (.aload_n 0, 1) := by decide +kernel
theorem dX4_firstBreak_9 : decode cX4_firstBreak 9 = .ok (.getfield 12, 3) := by decide +kernel
theorem dX4_firstBreak_12 : decode cX4_firstBreak 12 = .ok (.getfield 80, 3) := by decide +kernel
theorem dX4_firstBreak_15 : decode cX4_firstBreak 15 = .ok (.if_icmp .ge 71, 3) := by decide +kernel
theorem dX4_firstBreak_18 : decode cX4_firstBreak 18 = .ok (.iconst 0, 1) := by decide +kernel
theorem dX4_firstBreak_19 : decode cX4_firstBreak 19 = .ok (.istore_n 3, 1) := by decide +kernel
theorem dX4_firstBreak_20 : decode cX4_firstBreak 20 = .ok (.iload_n 3, 1) := by decide +kernel
theorem dX4_firstBreak_21 : decode cX4_firstBreak 21 = .ok (.aload_n 0, 1) := by decide +kernel
theorem dX4_firstBreak_22 : decode cX4_firstBreak 22 = .ok (.getfield 12, 3) := by decide +kernel
theorem dX4_firstBreak_25 : decode cX4_firstBreak 25 = .ok (.getfield 80, 3) := by decide +kernel
theorem dX4_firstBreak_28 : decode cX4_firstBreak 28 = .ok (.if_icmp .ge 52, 3) := by decide +kernel
theorem dX4_firstBreak_31 : decode cX4_firstBreak 31 = .ok (.aload_n 0, 1) := by decide +kernel
theorem dX4_firstBreak_32 : decode cX4_firstBreak 32 = .ok (.getfield 25, 3) := by decide +kernel
theorem dX4_firstBreak_35 : decode cX4_firstBreak 35 = .ok (.getfield 175, 3) := by decide +kernel
theorem dX4_firstBreak_38 : decode cX4_firstBreak 38 = .ok (.iload_n 2, 1) := by decide +kernel
theorem dX4_firstBreak_39 : decode cX4_firstBreak 39 = .ok (.iaload, 1) := by decide +kernel
theorem dX4_firstBreak_40 : decode cX4_firstBreak 40 = .ok (.aload_n 0, 1) := by decide +kernel
theorem dX4_firstBreak_41 : decode cX4_firstBreak 41 = .ok (.getfield 25, 3) := by decide +kernel
theorem dX4_firstBreak_44 : decode cX4_firstBreak 44 = .ok (.getfield 175, 3) := by decide +kernel
theorem dX4_firstBreak_47 : decode cX4_firstBreak 47 = .ok (.iload_n 3, 1) := by decide +kernel
theorem dX4_firstBreak_48 : decode cX4_firstBreak 48 = .ok (.iaload, 1) := by decide +kernel
theorem dX4_firstBreak_49 : decode cX4_firstBreak 49 = .ok (.if_icmp .le 25, 3) := by decide +kernel
theorem dX4_firstBreak_52 : decode cX4_firstBreak 52 = .ok (.aload_n 0, 1) := by decide +kernel
theorem dX4_firstBreak_53 : decode cX4_firstBreak 53 = .ok (.getfield 42, 3) := by decide +kernel
theorem dX4_firstBreak_56 : decode cX4_firstBreak 56 = .ok (.iload_n 2, 1) := by decide +kernel
theorem dX4_firstBreak_57 : decode cX4_firstBreak 57 = .ok (.iaload, 1) := by decide +kernel
theorem dX4_firstBreak_58 : decode cX4_firstBreak 58 = .ok (.aload_n 0, 1) := by decide +kernel
theorem dX4_firstBreak_59 : decode cX4_firstBreak 59 = .ok (.getfield 42, 3) := by decide +kernel
theorem dX4_firstBreak_62 : decode cX4_firstBreak 62 = .ok (.iload_n 3, 1) := by decide +kernel
theorem dX4_firstBreak_63 : decode cX4_firstBreak 63 = .ok (.iaload, 1) := by decide +kernel
theorem dX4_firstBreak_64 : decode cX4_firstBreak 64 = .ok (.if_icmp .ge 10, 3) := by decide +kernel
theorem dX4_firstBreak_67 : decode cX4_firstBreak 67 = .ok (.bipush 100, 2) := by decide +kernel
theorem dX4_firstBreak_69 : decode cX4_firstBreak 69 = .ok (.iload_n 2, 1) := by decide +kernel
theorem dX4_firstBreak_70 : decode cX4_firstBreak 70 = .ok (.imul, 1) := by decide +kernel
theorem dX4_firstBreak_71 : decode cX4_firstBreak 71 = .ok (.iload_n 3, 1) := by decide +kernel
theorem dX4_firstBreak_72 : decode cX4_firstBreak 72 = .ok (.iadd, 1) := by decide +kernel
theorem dX4_firstBreak_73 : decode cX4_firstBreak 73 = .ok (.ireturn, 1) := by decide +kernel
theorem dX4_firstBreak_74 : decode cX4_firstBreak 74 = .ok (.iinc 3 1, 3) := by decide +kernel
theorem dX4_firstBreak_77 : decode cX4_firstBreak 77 = .ok (.goto (-57), 3) := by decide +kernel
theorem dX4_firstBreak_80 : decode cX4_firstBreak 80 = .ok (.iinc 2 1, 3) := by decide +kernel
theorem dX4_firstBreak_83 : decode cX4_firstBreak 83 = .ok (.goto (-76), 3) := by decide +kernel
theorem dX4_firstBreak_86 : decode cX4_firstBreak 86 = .ok (.iconst (-1), 1) := by decide +kernel
theorem dX4_firstBreak_87 : decode cX4_firstBreak 87 = .ok (.ireturn, 1) := by decide +kernel
theorem dX4_gainOf_0 : decode cX4_gainOf 0 = .ok (.iconst (-1), 1) := by decide +kernel
theorem dX4_gainOf_1 : decode cX4_gainOf 1 = .ok (.istore_n 3, 1) := by decide +kernel
theorem dX4_gainOf_2 : decode cX4_gainOf 2 = .ok (.bipush 41, 2) := by decide +kernel
theorem dX4_gainOf_4 : decode cX4_gainOf 4 = .ok (.istore 4, 2) := by decide +kernel
theorem dX4_gainOf_6 : decode cX4_gainOf 6 = .ok (.iconst 0, 1) := by decide +kernel
theorem dX4_gainOf_7 : decode cX4_gainOf 7 = .ok (.istore 5, 2) := by decide +kernel
theorem dX4_gainOf_9 : decode cX4_gainOf 9 = .ok (.iload 5, 2) := by decide +kernel
theorem dX4_gainOf_11 : decode cX4_gainOf 11 = .ok (.bipush 8, 2) := by decide +kernel
theorem dX4_gainOf_13 : decode cX4_gainOf 13 = .ok (.if_icmp .ge 35, 3) := by decide +kernel
theorem dX4_gainOf_16 : decode cX4_gainOf 16 = .ok (.aload_n 0, 1) := by decide +kernel
theorem dX4_gainOf_17 : decode cX4_gainOf 17 = .ok (.iload_n 1, 1) := by decide +kernel
theorem dX4_gainOf_18 : decode cX4_gainOf 18 = .ok (.iload_n 2, 1) := by decide +kernel
theorem dX4_gainOf_19 : decode cX4_gainOf 19 = .ok (.iload 5, 2) := by decide +kernel
theorem dX4_gainOf_21 : decode cX4_gainOf 21 = .ok (.iload 4, 2) := by decide +kernel
theorem dX4_gainOf_23 : decode cX4_gainOf 23 = .ok (.iconst 1, 1) := by decide +kernel
theorem dX4_gainOf_24 : decode cX4_gainOf 24 = .ok (.isub, 1) := by decide +kernel
theorem dX4_gainOf_25 : decode cX4_gainOf 25 = .ok (.invokevirtual 286, 3) := by decide +kernel
theorem dX4_gainOf_28 : decode cX4_gainOf 28 = .ok (.istore 6, 2) := by decide +kernel
theorem dX4_gainOf_30 : decode cX4_gainOf 30 = .ok (.iload 6, 2) := by decide +kernel
theorem dX4_gainOf_32 : decode cX4_gainOf 32 = .ok (.ifCond .le 10, 3) := by decide +kernel
theorem dX4_gainOf_35 : decode cX4_gainOf 35 = .ok (.iload 6, 2) := by decide +kernel
theorem dX4_gainOf_37 : decode cX4_gainOf 37 = .ok (.istore 4, 2) := by decide +kernel
theorem dX4_gainOf_39 : decode cX4_gainOf 39 = .ok (.iload 5, 2) := by decide +kernel
theorem dX4_gainOf_41 : decode cX4_gainOf 41 = .ok (.istore_n 3, 1) := by decide +kernel
theorem dX4_gainOf_42 : decode cX4_gainOf 42 = .ok (.iinc 5 1, 3) := by decide +kernel
theorem dX4_gainOf_45 : decode cX4_gainOf 45 = .ok (.goto (-36), 3) := by decide +kernel
theorem dX4_gainOf_48 : decode cX4_gainOf 48 = .ok (.iload_n 3, 1) := by decide +kernel
theorem dX4_gainOf_49 : decode cX4_gainOf 49 = .ok (.ifCond .ge 7, 3) := by decide +kernel
theorem dX4_gainOf_52 : decode cX4_gainOf 52 = .ok (.iconst (-1), 1) := by decide +kernel
theorem dX4_gainOf_53 : decode cX4_gainOf 53 = .ok (.goto 10, 3) := by decide +kernel
theorem dX4_gainOf_56 : decode cX4_gainOf 56 = .ok (.bipush 100, 2) := by decide +kernel
theorem dX4_gainOf_58 : decode cX4_gainOf 58 = .ok (.iload_n 3, 1) := by decide +kernel
theorem dX4_gainOf_59 : decode cX4_gainOf 59 = .ok (.imul, 1) := by decide +kernel
theorem dX4_gainOf_60 : decode cX4_gainOf 60 = .ok (.iload 4, 2) := by decide +kernel
theorem dX4_gainOf_62 : decode cX4_gainOf 62 = .ok (.iadd, 1) := by decide +kernel
theorem dX4_gainOf_63 : decode cX4_gainOf 63 = .ok (.ireturn, 1) := by decide +kernel
theorem dX4_leastGainfulLoss_0 : decode cX4_leastGainfulLoss 0 = .ok (.aload_n 0, 1) := by decide +kernel
theorem dX4_leastGainfulLoss_1 : decode cX4_leastGainfulLoss 1 = .ok (.getfield 12, 3) := by decide +kernel
theorem dX4_leastGainfulLoss_4 : decode cX4_leastGainfulLoss 4 = .ok (.getfield 153, 3) := by decide +kernel
theorem dX4_leastGainfulLoss_7 : decode cX4_leastGainfulLoss 7 = .ok (.iload_n 1, 1) := by decide +kernel
theorem dX4_leastGainfulLoss_8 : decode cX4_leastGainfulLoss 8 = .ok (.iaload, 1) := by decide +kernel
theorem dX4_leastGainfulLoss_9 : decode cX4_leastGainfulLoss 9 = .ok (.istore 5, 2) := by decide +kernel
theorem dX4_leastGainfulLoss_11 : decode cX4_leastGainfulLoss 11 = .ok (.aload_n 0, 1) := by decide +kernel
theorem dX4_leastGainfulLoss_12 : decode cX4_leastGainfulLoss 12 = .ok (.getfield 12, 3) := by decide +kernel
theorem dX4_leastGainfulLoss_15 : decode cX4_leastGainfulLoss 15 = .ok (.getfield 156, 3) := by decide +kernel
theorem dX4_leastGainfulLoss_18 : decode cX4_leastGainfulLoss 18 = .ok (.iload_n 1, 1) := by decide +kernel
theorem dX4_leastGainfulLoss_19 : decode cX4_leastGainfulLoss 19 = .ok (.iaload, 1) := by decide +kernel
theorem dX4_leastGainfulLoss_20 : decode cX4_leastGainfulLoss 20 = .ok (.istore 6, 2) := by decide +kernel
theorem dX4_leastGainfulLoss_22 : decode cX4_leastGainfulLoss 22 = .ok (.aload_n 0, 1) := by decide +kernel
theorem dX4_leastGainfulLoss_23 : decode cX4_leastGainfulLoss 23 = .ok (.getfield 25, 3) := by decide +kernel
theorem dX4_leastGainfulLoss_26 : decode cX4_leastGainfulLoss 26 = .ok (.iload 5, 2) := by decide +kernel
theorem dX4_leastGainfulLoss_28 : decode cX4_leastGainfulLoss 28 = .ok (.iload 6, 2) := by decide +kernel
theorem dX4_leastGainfulLoss_30 : decode cX4_leastGainfulLoss 30 = .ok (.iload_n 2, 1) := by decide +kernel
theorem dX4_leastGainfulLoss_31 : decode cX4_leastGainfulLoss 31 = .ok (.invokevirtual 159, 3) := by decide +kernel
theorem dX4_leastGainfulLoss_34 : decode cX4_leastGainfulLoss 34 = .ok (.istore 7, 2) := by decide +kernel
theorem dX4_leastGainfulLoss_36 : decode cX4_leastGainfulLoss 36 = .ok (.aload_n 0, 1) := by decide +kernel
theorem dX4_leastGainfulLoss_37 : decode cX4_leastGainfulLoss 37 = .ok (.getfield 12, 3) := by decide +kernel
theorem dX4_leastGainfulLoss_40 : decode cX4_leastGainfulLoss 40 = .ok (.getfield 98, 3) := by decide +kernel
theorem dX4_leastGainfulLoss_43 : decode cX4_leastGainfulLoss 43 = .ok (.iload_n 2, 1) := by decide +kernel
theorem dX4_leastGainfulLoss_44 : decode cX4_leastGainfulLoss 44 = .ok (.iload_n 3, 1) := by decide +kernel
theorem dX4_leastGainfulLoss_45 : decode cX4_leastGainfulLoss 45 = .ok (.iconst 0, 1) := by decide +kernel
theorem dX4_leastGainfulLoss_46 : decode cX4_leastGainfulLoss 46 = .ok (.invokestatic 94, 3) := by decide +kernel
theorem dX4_leastGainfulLoss_49 : decode cX4_leastGainfulLoss 49 = .ok (.iaload, 1) := by decide +kernel
theorem dX4_leastGainfulLoss_50 : decode cX4_leastGainfulLoss 50 = .ok (.istore 8, 2) := by decide +kernel
theorem dX4_leastGainfulLoss_52 : decode cX4_leastGainfulLoss 52 = .ok (.iload 8, 2) := by decide +kernel
theorem dX4_leastGainfulLoss_54 : decode cX4_leastGainfulLoss 54 = .ok (.aload_n 0, 1) := by decide +kernel
theorem dX4_leastGainfulLoss_55 : decode cX4_leastGainfulLoss 55 = .ok (.getfield 12, 3) := by decide +kernel
theorem dX4_leastGainfulLoss_58 : decode cX4_leastGainfulLoss 58 = .ok (.getfield 98, 3) := by decide +kernel
theorem dX4_leastGainfulLoss_61 : decode cX4_leastGainfulLoss 61 = .ok (.iload_n 2, 1) := by decide +kernel
theorem dX4_leastGainfulLoss_62 : decode cX4_leastGainfulLoss 62 = .ok (.iload_n 3, 1) := by decide +kernel
theorem dX4_leastGainfulLoss_63 : decode cX4_leastGainfulLoss 63 = .ok (.iconst 1, 1) := by decide +kernel
theorem dX4_leastGainfulLoss_64 : decode cX4_leastGainfulLoss 64 = .ok (.invokestatic 94, 3) := by decide +kernel
theorem dX4_leastGainfulLoss_67 : decode cX4_leastGainfulLoss 67 = .ok (.iaload, 1) := by decide +kernel
theorem dX4_leastGainfulLoss_68 : decode cX4_leastGainfulLoss 68 = .ok (.iadd, 1) := by decide +kernel
theorem dX4_leastGainfulLoss_69 : decode cX4_leastGainfulLoss 69 = .ok (.istore 9, 2) := by decide +kernel
theorem dX4_leastGainfulLoss_71 : decode cX4_leastGainfulLoss 71 = .ok (.iload 9, 2) := by decide +kernel
theorem dX4_leastGainfulLoss_73 : decode cX4_leastGainfulLoss 73 = .ok (.iconst 2, 1) := by decide +kernel
theorem dX4_leastGainfulLoss_74 : decode cX4_leastGainfulLoss 74 = .ok (.idiv, 1) := by decide +kernel
theorem dX4_leastGainfulLoss_75 : decode cX4_leastGainfulLoss 75 = .ok (.istore 10, 2) := by decide +kernel
theorem dX4_leastGainfulLoss_77 : decode cX4_leastGainfulLoss 77 = .ok (.iconst 1, 1) := by decide +kernel
theorem dX4_leastGainfulLoss_78 : decode cX4_leastGainfulLoss 78 = .ok (.istore 11, 2) := by decide +kernel
theorem dX4_leastGainfulLoss_80 : decode cX4_leastGainfulLoss 80 = .ok (.iload 11, 2) := by decide +kernel
theorem dX4_leastGainfulLoss_82 : decode cX4_leastGainfulLoss 82 = .ok (.iload 4, 2) := by decide +kernel
theorem dX4_leastGainfulLoss_84 : decode cX4_leastGainfulLoss 84 = .ok (.if_icmp .gt 75, 3) := by decide +kernel
theorem dX4_leastGainfulLoss_87 : decode cX4_leastGainfulLoss 87 = .ok (.iload 11, 2) := by decide +kernel
theorem dX4_leastGainfulLoss_89 : decode cX4_leastGainfulLoss 89 = .ok (.iload 8, 2) := by decide +kernel
theorem dX4_leastGainfulLoss_91 : decode cX4_leastGainfulLoss 91 = .ok (.if_icmp .gt 68, 3) := by decide +kernel
theorem dX4_leastGainfulLoss_94 : decode cX4_leastGainfulLoss 94 = .ok (.aload_n 0, 1) := by decide +kernel
theorem dX4_leastGainfulLoss_95 : decode cX4_leastGainfulLoss 95 = .ok (.getfield 25, 3) := by decide +kernel
theorem dX4_leastGainfulLoss_98 : decode cX4_leastGainfulLoss 98 = .ok (.iload_n 2, 1) := by decide +kernel
theorem dX4_leastGainfulLoss_99 : decode cX4_leastGainfulLoss 99 = .ok (.iload_n 3, 1) := by decide +kernel
theorem dX4_leastGainfulLoss_100 : decode cX4_leastGainfulLoss 100 = .ok (.iload 9, 2) := by decide +kernel
theorem dX4_leastGainfulLoss_102 : decode cX4_leastGainfulLoss 102 = .ok (.iload 11, 2) := by decide +kernel
theorem dX4_leastGainfulLoss_104 : decode cX4_leastGainfulLoss 104 = .ok (.isub, 1) := by decide +kernel
theorem dX4_leastGainfulLoss_105 : decode cX4_leastGainfulLoss 105 = .ok (.iconst 2, 1) := by decide +kernel
theorem dX4_leastGainfulLoss_106 : decode cX4_leastGainfulLoss 106 = .ok (.idiv, 1) := by decide +kernel
theorem dX4_leastGainfulLoss_107 : decode cX4_leastGainfulLoss 107 = .ok (.invokevirtual 290, 3) := by decide +kernel
theorem dX4_leastGainfulLoss_110 : decode cX4_leastGainfulLoss 110 = .ok (.aload_n 0, 1) := by decide +kernel
theorem dX4_leastGainfulLoss_111 : decode cX4_leastGainfulLoss 111 = .ok (.getfield 25, 3) := by decide +kernel
theorem dX4_leastGainfulLoss_114 : decode cX4_leastGainfulLoss 114 = .ok (.iload 5, 2) := by decide +kernel
theorem dX4_leastGainfulLoss_116 : decode cX4_leastGainfulLoss 116 = .ok (.iload 6, 2) := by decide +kernel
theorem dX4_leastGainfulLoss_118 : decode cX4_leastGainfulLoss 118 = .ok (.iload_n 2, 1) := by decide +kernel
theorem dX4_leastGainfulLoss_119 : decode cX4_leastGainfulLoss 119 = .ok (.invokevirtual 159, 3) := by decide +kernel
theorem dX4_leastGainfulLoss_122 : decode cX4_leastGainfulLoss 122 = .ok (.iload 7, 2) := by decide +kernel
theorem dX4_leastGainfulLoss_124 : decode cX4_leastGainfulLoss 124 = .ok (.if_icmp .le 7, 3) := by decide +kernel
theorem dX4_leastGainfulLoss_127 : decode cX4_leastGainfulLoss 127 = .ok (.iconst 1, 1) := by decide +kernel
theorem dX4_leastGainfulLoss_128 : decode cX4_leastGainfulLoss 128 = .ok (.goto 4, 3) := by decide +kernel
theorem dX4_leastGainfulLoss_131 : decode cX4_leastGainfulLoss 131 = .ok (.iconst 0, 1) := by decide +kernel
theorem dX4_leastGainfulLoss_132 : decode cX4_leastGainfulLoss 132 = .ok (.istore 12, 2) := by decide +kernel
theorem dX4_leastGainfulLoss_134 : decode cX4_leastGainfulLoss 134 = .ok (.aload_n 0, 1) := by decide +kernel
theorem dX4_leastGainfulLoss_135 : decode cX4_leastGainfulLoss 135 = .ok (.getfield 25, 3) := by decide +kernel
theorem dX4_leastGainfulLoss_138 : decode cX4_leastGainfulLoss 138 = .ok (.iload_n 2, 1) := by decide +kernel
theorem dX4_leastGainfulLoss_139 : decode cX4_leastGainfulLoss 139 = .ok (.iload_n 3, 1) := by decide +kernel
theorem dX4_leastGainfulLoss_140 : decode cX4_leastGainfulLoss 140 = .ok (.iload 10, 2) := by decide +kernel
theorem dX4_leastGainfulLoss_142 : decode cX4_leastGainfulLoss 142 = .ok (.invokevirtual 290, 3) := by decide +kernel
theorem dX4_leastGainfulLoss_145 : decode cX4_leastGainfulLoss 145 = .ok (.iload 12, 2) := by decide +kernel
theorem dX4_leastGainfulLoss_147 : decode cX4_leastGainfulLoss 147 = .ok (.ifCond .eq 6, 3) := by decide +kernel
theorem dX4_leastGainfulLoss_150 : decode cX4_leastGainfulLoss 150 = .ok (.iload 11, 2) := by decide +kernel
theorem dX4_leastGainfulLoss_152 : decode cX4_leastGainfulLoss 152 = .ok (.ireturn, 1) := by decide +kernel
theorem dX4_leastGainfulLoss_153 : decode cX4_leastGainfulLoss 153 = .ok (.iinc 11 1, 3) := by decide +kernel
theorem dX4_leastGainfulLoss_156 : decode cX4_leastGainfulLoss 156 = .ok (.goto (-76), 3) := by decide +kernel
theorem dX4_leastGainfulLoss_159 : decode cX4_leastGainfulLoss 159 = .ok (.iconst 0, 1) := by decide +kernel
theorem dX4_leastGainfulLoss_160 : decode cX4_leastGainfulLoss 160 = .ok (.ireturn, 1) := by decide +kernel
theorem dX5_init_0 : decode cX5_init 0 = .ok (.aload_n 0, 1) := by decide +kernel
theorem dX5_init_1 : decode cX5_init 1 = .ok (.invokespecial 1, 3) := by decide +kernel
theorem dX5_init_4 : decode cX5_init 4 = .ok (.aload_n 0, 1) := by decide +kernel
theorem dX5_init_5 : decode cX5_init 5 = .ok (.sipush 245, 3) := by decide +kernel
theorem dX5_init_8 : decode cX5_init 8 = .ok (.newarray .int, 2) := by decide +kernel
theorem dX5_init_10 : decode cX5_init 10 = .ok (.putfield 7, 3) := by decide +kernel
theorem dX5_init_13 : decode cX5_init 13 = .ok (.aload_n 0, 1) := by decide +kernel
theorem dX5_init_14 : decode cX5_init 14 = .ok (.sipush 245, 3) := by decide +kernel
theorem dX5_init_17 : decode cX5_init 17 = .ok (.newarray .int, 2) := by decide +kernel
theorem dX5_init_19 : decode cX5_init 19 = .ok (.putfield 13, 3) := by decide +kernel
theorem dX5_init_22 : decode cX5_init 22 = .ok (.aload_n 0, 1) := by decide +kernel
theorem dX5_init_23 : decode cX5_init 23 = .ok (.sipush 245, 3) := by decide +kernel
theorem dX5_init_26 : decode cX5_init 26 = .ok (.newarray .int, 2) := by decide +kernel
theorem dX5_init_28 : decode cX5_init 28 = .ok (.putfield 16, 3) := by decide +kernel
theorem dX5_init_31 : decode cX5_init 31 = .ok (.aload_n 0, 1) := by decide +kernel
theorem dX5_init_32 : decode cX5_init 32 = .ok (.bipush 7, 2) := by decide +kernel
theorem dX5_init_34 : decode cX5_init 34 = .ok (.newarray .int, 2) := by decide +kernel
theorem dX5_init_36 : decode cX5_init 36 = .ok (.putfield 19, 3) := by decide +kernel
theorem dX5_init_39 : decode cX5_init 39 = .ok (.aload_n 0, 1) := by decide +kernel
theorem dX5_init_40 : decode cX5_init 40 = .ok (.bipush 12, 2) := by decide +kernel
theorem dX5_init_42 : decode cX5_init 42 = .ok (.newarray .int, 2) := by decide +kernel
theorem dX5_init_44 : decode cX5_init 44 = .ok (.putfield 22, 3) := by decide +kernel
theorem dX5_init_47 : decode cX5_init 47 = .ok (.aload_n 0, 1) := by decide +kernel
theorem dX5_init_48 : decode cX5_init 48 = .ok (.bipush 120, 2) := by decide +kernel
theorem dX5_init_50 : decode cX5_init 50 = .ok (.newarray .int, 2) := by decide +kernel
theorem dX5_init_52 : decode cX5_init 52 = .ok (.putfield 25, 3) := by decide +kernel
theorem dX5_init_55 : decode cX5_init 55 = .ok (.aload_n 0, 1) := by decide +kernel
theorem dX5_init_56 : decode cX5_init 56 = .ok (.iconst 4, 1) := by decide +kernel
theorem dX5_init_57 : decode cX5_init 57 = .ok (.newarray .int, 2) := by decide +kernel
theorem dX5_init_59 : decode cX5_init 59 = .ok (.putfield 28, 3) := by decide +kernel
theorem dX5_init_62 : decode cX5_init 62 = .ok (.aload_n 0, 1) := by decide +kernel
theorem dX5_init_63 : decode cX5_init 63 = .ok (.iconst 4, 1) := by decide +kernel
theorem dX5_init_64 : decode cX5_init 64 = .ok (.newarray .int, 2) := by decide +kernel
theorem dX5_init_66 : decode cX5_init 66 = .ok (.putfield 31, 3) := by decide +kernel
theorem dX5_init_69 : decode cX5_init 69 = .ok (.aload_n 0, 1) := by decide +kernel
theorem dX5_init_70 : decode cX5_init 70 = .ok (.sipush 160, 3) := by decide +kernel
theorem dX5_init_73 : decode cX5_init 73 = .ok (.newarray .int, 2) := by decide +kernel
theorem dX5_init_75 : decode cX5_init 75 = .ok (.putfield 34, 3) := by decide +kernel
theorem dX5_init_78 : decode cX5_init 78 = .ok (.aload_n 0, 1) := by decide +kernel
theorem dX5_init_79 : decode cX5_init 79 = .ok (.bipush 40, 2) := by decide +kernel
theorem dX5_init_81 : decode cX5_init 81 = .ok (.newarray .int, 2) := by decide +kernel
theorem dX5_init_83 : decode cX5_init 83 = .ok (.putfield 37, 3) := by decide +kernel
theorem dX5_init_86 : decode cX5_init 86 = .ok (.aload_n 0, 1) := by decide +kernel
theorem dX5_init_87 : decode cX5_init 87 = .ok (.getfield 7, 3) := by decide +kernel
theorem dX5_init_90 : decode cX5_init 90 = .ok (.bipush 16, 2) := by decide +kernel
theorem dX5_init_92 : decode cX5_init 92 = .ok (.iconst 1, 1) := by decide +kernel
theorem dX5_init_93 : decode cX5_init 93 = .ok (.iastore, 1) := by decide +kernel
theorem dX5_init_94 : decode cX5_init 94 = .ok (.iconst 0, 1) := by decide +kernel
theorem dX5_init_95 : decode cX5_init 95 = .ok (.istore_n 1, 1) := by decide +kernel
theorem dX5_init_96 : decode cX5_init 96 = .ok (.iload_n 1, 1) := by decide +kernel
theorem dX5_init_97 : decode cX5_init 97 = .ok (.bipush 8, 2) := by decide +kernel
theorem dX5_init_99 : decode cX5_init 99 = .ok (.if_icmp .ge 29, 3) := by decide +kernel
theorem dX5_init_102 : decode cX5_init 102 = .ok (.aload_n 0, 1) := by decide +kernel
theorem dX5_init_103 : decode cX5_init 103 = .ok (.getfield 7, 3) := by decide +kernel
theorem dX5_init_106 : decode cX5_init 106 = .ok (.iconst 0, 1) := by decide +kernel
theorem dX5_init_107 : decode cX5_init 107 = .ok (.iload_n 1, 1) := by decide +kernel
theorem dX5_init_108 : decode cX5_init 108 = .ok (.iadd, 1) := by decide +kernel
theorem dX5_init_109 : decode cX5_init 109 = .ok (.bipush 10, 2) := by decide +kernel
theorem dX5_init_111 : decode cX5_init 111 = .ok (.iastore, 1) := by decide +kernel
theorem dX5_init_112 : decode cX5_init 112 = .ok (.aload_n 0, 1) := by decide +kernel
theorem dX5_init_113 : decode cX5_init 113 = .ok (.getfield 7, 3) := by decide +kernel
theorem dX5_init_116 : decode cX5_init 116 = .ok (.bipush 8, 2) := by decide +kernel
theorem dX5_init_118 : decode cX5_init 118 = .ok (.iload_n 1, 1) := by decide +kernel
theorem dX5_init_119 : decode cX5_init 119 = .ok (.iadd, 1) := by decide +kernel
theorem dX5_init_120 : decode cX5_init 120 = .ok (.iconst (-1), 1) := by decide +kernel
theorem dX5_init_121 : decode cX5_init 121 = .ok (.iastore, 1) := by decide +kernel
theorem dX5_init_122 : decode cX5_init 122 = .ok (.iinc 1 1, 3) := by decide +kernel
theorem dX5_init_125 : decode cX5_init 125 = .ok (.goto (-29), 3) := by decide +kernel
theorem dX5_init_128 : decode cX5_init 128 = .ok (.iconst 0, 1) := by decide +kernel
theorem dX5_init_129 : decode cX5_init 129 = .ok (.istore_n 1, 1) := by decide +kernel
theorem dX5_init_130 : decode cX5_init 130 = .ok (.iload_n 1, 1) := by decide +kernel
theorem dX5_init_131 : decode cX5_init 131 = .ok (.bipush 10, 2) := by decide +kernel
theorem dX5_init_133 : decode cX5_init 133 = .ok (.if_icmp .ge 20, 3) := by decide +kernel
theorem dX5_init_136 : decode cX5_init 136 = .ok (.aload_n 0, 1) := by decide +kernel
theorem dX5_init_137 : decode cX5_init 137 = .ok (.getfield 7, 3) := by decide +kernel
theorem dX5_init_140 : decode cX5_init 140 = .ok (.sipush 235, 3) := by decide +kernel
theorem dX5_init_143 : decode cX5_init 143 = .ok (.iload_n 1, 1) := by decide +kernel
theorem dX5_init_144 : decode cX5_init 144 = .ok (.iadd, 1) := by decide +kernel
theorem dX5_init_145 : decode cX5_init 145 = .ok (.iconst (-1), 1) := by decide +kernel
theorem dX5_init_146 : decode cX5_init 146 = .ok (.iastore, 1) := by decide +kernel
theorem dX5_init_147 : decode cX5_init 147 = .ok (.iinc 1 1, 3) := by decide +kernel
theorem dX5_init_150 : decode cX5_init 150 = .ok (.goto (-20), 3) := by decide +kernel
theorem dX5_init_153 : decode cX5_init 153 = .ok (.return_, 1) := by decide +kernel
theorem dX5_in_0 : decode cX5_in 0 = .ok (.lload_n 0, 1) := by decide +kernel
theorem dX5_in_1 : decode cX5_in 1 = .ok (.lload_n 2, 1) := by decide +kernel
theorem dX5_in_2 : decode cX5_in 2 = .ok (.lcmp, 1) := by decide +kernel
theorem dX5_in_3 : decode cX5_in 3 = .ok (.ifCond .lt 14, 3) := by decide +kernel
theorem dX5_in_6 : decode cX5_in 6 = .ok (.lload_n 0, 1) := by decide +kernel
theorem dX5_in_7 : decode cX5_in 7 = .ok (.lload 4, 2) := by decide +kernel
theorem dX5_in_9 : decode cX5_in 9 = .ok (.lcmp, 1) := by decide +kernel
theorem dX5_in_10 : decode cX5_in 10 = .ok (.ifCond .gt 7, 3) := by decide +kernel
theorem dX5_in_13 : decode cX5_in 13 = .ok (.iconst 1, 1) := by decide +kernel
theorem dX5_in_14 : decode cX5_in 14 = .ok (.goto 4, 3) := by decide +kernel
theorem dX5_in_17 : decode cX5_in 17 = .ok (.iconst 0, 1) := by decide +kernel
theorem dX5_in_18 : decode cX5_in 18 = .ok (.ireturn, 1) := by decide +kernel
theorem dX5_finds_0 : decode cX5_finds 0 = .ok (.aload_n 0, 1) := by decide +kernel
theorem dX5_finds_1 : decode cX5_finds 1 = .ok (.getfield 19, 3) := by decide +kernel
theorem dX5_finds_4 : decode cX5_finds 4 = .ok (.ldc 40, 2) := by decide +kernel
theorem dX5_finds_6 : decode cX5_finds 6 = .ok (.iload_n 1, 1) := by decide +kernel
theorem dX5_finds_7 : decode cX5_finds 7 = .ok (.isub, 1) := by decide +kernel
theorem dX5_finds_8 : decode cX5_finds 8 = .ok (.dup2, 1) := by decide +kernel
theorem dX5_finds_9 : decode cX5_finds 9 = .ok (.iaload, 1) := by decide +kernel
theorem dX5_finds_10 : decode cX5_finds 10 = .ok (.iconst 1, 1) := by decide +kernel
theorem dX5_finds_11 : decode cX5_finds 11 = .ok (.iadd, 1) := by decide +kernel
theorem dX5_finds_12 : decode cX5_finds 12 = .ok (.iastore, 1) := by decide +kernel
theorem dX5_finds_13 : decode cX5_finds 13 = .ok (.iload_n 1, 1) := by decide +kernel
theorem dX5_finds_14 : decode cX5_finds 14 = .ok (.ireturn, 1) := by decide +kernel
theorem dX5_isQuestion_0 : decode cX5_isQuestion 0 = .ok (.iload_n 0, 1) := by decide +kernel
theorem dX5_isQuestion_1 : decode cX5_isQuestion 1 = .ok (.i2l, 1) := by decide +kernel
theorem dX5_isQuestion_2 : decode cX5_isQuestion 2 = .ok (.lconst 0, 1) := by decide +kernel
theorem dX5_isQuestion_3 : decode cX5_isQuestion 3 = .ok (.ldc2_w 41, 3) := by decide +kernel
theorem dX5_isQuestion_6 : decode cX5_isQuestion 6 = .ok (.invokestatic 43, 3) := by decide +kernel
theorem dX5_isQuestion_9 : decode cX5_isQuestion 9 = .ok (.ireturn, 1) := by decide +kernel
theorem dX5_isPupil_0 : decode cX5_isPupil 0 = .ok (.iload_n 1, 1) := by decide +kernel
theorem dX5_isPupil_1 : decode cX5_isPupil 1 = .ok (.i2l, 1) := by decide +kernel
theorem dX5_isPupil_2 : decode cX5_isPupil 2 = .ok (.lconst 0, 1) := by decide +kernel
theorem dX5_isPupil_3 : decode cX5_isPupil 3 = .ok (.aload_n 0, 1) := by decide +kernel
theorem dX5_isPupil_4 : decode cX5_isPupil 4 = .ok (.getfield 7, 3) := by decide +kernel
theorem dX5_isPupil_7 : decode cX5_isPupil 7 = .ok (.bipush 17, 2) := by decide +kernel
theorem dX5_isPupil_9 : decode cX5_isPupil 9 = .ok (.iaload, 1) := by decide +kernel
theorem dX5_isPupil_10 : decode cX5_isPupil 10 = .ok (.iconst 1, 1) := by decide +kernel
theorem dX5_isPupil_11 : decode cX5_isPupil 11 = .ok (.isub, 1) := by decide +kernel
theorem dX5_isPupil_12 : decode cX5_isPupil 12 = .ok (.i2l, 1) := by decide +kernel
theorem dX5_isPupil_13 : decode cX5_isPupil 13 = .ok (.invokestatic 43, 3) := by decide +kernel
theorem dX5_isPupil_16 : decode cX5_isPupil 16 = .ok (.ireturn, 1) := by decide +kernel
theorem dX5_isCurve_0 : decode cX5_isCurve 0 = .ok (.iload_n 1, 1) := by decide +kernel
theorem dX5_isCurve_1 : decode cX5_isCurve 1 = .ok (.i2l, 1) := by decide +kernel
theorem dX5_isCurve_2 : decode cX5_isCurve 2 = .ok (.lconst 0, 1) := by decide +kernel
theorem dX5_isCurve_3 : decode cX5_isCurve 3 = .ok (.aload_n 0, 1) := by decide +kernel
theorem dX5_isCurve_4 : decode cX5_isCurve 4 = .ok (.getfield 7, 3) := by decide +kernel
theorem dX5_isCurve_7 : decode cX5_isCurve 7 = .ok (.bipush 18, 2) := by decide +kernel
theorem dX5_isCurve_9 : decode cX5_isCurve 9 = .ok (.iaload, 1) := by decide +kernel
theorem dX5_isCurve_10 : decode cX5_isCurve 10 = .ok (.iconst 1, 1) := by decide +kernel
theorem dX5_isCurve_11 : decode cX5_isCurve 11 = .ok (.isub, 1) := by decide +kernel
theorem dX5_isCurve_12 : decode cX5_isCurve 12 = .ok (.i2l, 1) := by decide +kernel
theorem dX5_isCurve_13 : decode cX5_isCurve 13 = .ok (.invokestatic 43, 3) := by decide +kernel
theorem dX5_isCurve_16 : decode cX5_isCurve 16 = .ok (.ireturn, 1) := by decide +kernel
theorem dX5_isLine_0 : decode cX5_isLine 0 = .ok (.iload_n 0, 1) := by decide +kernel
theorem dX5_isLine_1 : decode cX5_isLine 1 = .ok (.i2l, 1) := by decide +kernel
theorem dX5_isLine_2 : decode cX5_isLine 2 = .ok (.lconst 0, 1) := by decide +kernel
theorem dX5_isLine_3 : decode cX5_isLine 3 = .ok (.ldc2_w 47, 3) := by decide +kernel
theorem dX5_isLine_6 : decode cX5_isLine 6 = .ok (.invokestatic 43, 3) := by decide +kernel
theorem dX5_isLine_9 : decode cX5_isLine 9 = .ok (.ireturn, 1) := by decide +kernel
theorem dX5_at_0 : decode cX5_at 0 = .ok (.bipush 19, 2) := by decide +kernel
theorem dX5_at_2 : decode cX5_at 2 = .ok (.bipush 17, 2) := by decide +kernel
theorem dX5_at_4 : decode cX5_at 4 = .ok (.iload_n 0, 1) := by decide +kernel
theorem dX5_at_5 : decode cX5_at 5 = .ok (.imul, 1) := by decide +kernel
theorem dX5_at_6 : decode cX5_at 6 = .ok (.iadd, 1) := by decide +kernel
theorem dX5_at_7 : decode cX5_at 7 = .ok (.iconst 1, 1) := by decide +kernel
theorem dX5_at_8 : decode cX5_at 8 = .ok (.iadd, 1) := by decide +kernel
theorem dX5_at_9 : decode cX5_at 9 = .ok (.bipush 8, 2) := by decide +kernel
theorem dX5_at_11 : decode cX5_at 11 = .ok (.iload_n 1, 1) := by decide +kernel
theorem dX5_at_12 : decode cX5_at 12 = .ok (.imul, 1) := by decide +kernel
theorem dX5_at_13 : decode cX5_at 13 = .ok (.iadd, 1) := by decide +kernel
theorem dX5_at_14 : decode cX5_at 14 = .ok (.iload_n 2, 1) := by decide +kernel
theorem dX5_at_15 : decode cX5_at 15 = .ok (.iadd, 1) := by decide +kernel
theorem dX5_at_16 : decode cX5_at 16 = .ok (.ireturn, 1) := by decide +kernel
theorem dX5_puts_0 : decode cX5_puts 0 = .ok (.iconst 0, 1) := by decide +kernel
theorem dX5_puts_1 : decode cX5_puts 1 = .ok (.istore_n 1, 1) := by decide +kernel
theorem dX5_puts_2 : decode cX5_puts 2 = .ok (.iload_n 1, 1) := by decide +kernel
theorem dX5_puts_3 : decode cX5_puts 3 = .ok (.sipush 245, 3) := by decide +kernel
theorem dX5_puts_6 : decode cX5_puts 6 = .ok (.if_icmp .ge 21, 3) := by decide +kernel
theorem dX5_puts_9 : decode cX5_puts 9 = .ok (.aload_n 0, 1) := by decide +kernel
theorem dX5_puts_10 : decode cX5_puts 10 = .ok (.getfield 16, 3) := by decide +kernel
theorem dX5_puts_13 : decode cX5_puts 13 = .ok (.iload_n 1, 1) := by decide +kernel
theorem dX5_puts_14 : decode cX5_puts 14 = .ok (.aload_n 0, 1) := by decide +kernel
theorem dX5_puts_15 : decode cX5_puts 15 = .ok (.getfield 7, 3) := by decide +kernel
theorem dX5_puts_18 : decode cX5_puts 18 = .ok (.iload_n 1, 1) := by decide +kernel
theorem dX5_puts_19 : decode cX5_puts 19 = .ok (.iaload, 1) := by decide +kernel
theorem dX5_puts_20 : decode cX5_puts 20 = .ok (.iastore, 1) := by decide +kernel
theorem dX5_puts_21 : decode cX5_puts 21 = .ok (.iinc 1 1, 3) := by decide +kernel
theorem dX5_puts_24 : decode cX5_puts 24 = .ok (.goto (-22), 3) := by decide +kernel
theorem dX5_puts_27 : decode cX5_puts 27 = .ok (.return_, 1) := by decide +kernel
theorem dX5_putsBack_0 : decode cX5_putsBack 0 = .ok (.iconst 0, 1) := by decide +kernel
theorem dX5_putsBack_1 : decode cX5_putsBack 1 = .ok (.istore_n 1, 1) := by decide +kernel
theorem dX5_putsBack_2 : decode cX5_putsBack 2 = .ok (.iload_n 1, 1) := by decide +kernel
theorem dX5_putsBack_3 : decode cX5_putsBack 3 = .ok (.sipush 245, 3) := by decide +kernel
theorem dX5_putsBack_6 : decode cX5_putsBack 6 = .ok (.if_icmp .ge 21, 3) := by decide +kernel
theorem dX5_putsBack_9 : decode cX5_putsBack 9 = .ok (.aload_n 0, 1) := by decide +kernel
theorem dX5_putsBack_10 : decode cX5_putsBack 10 = .ok (.getfield 7, 3) := by decide +kernel
theorem dX5_putsBack_13 : decode cX5_putsBack 13 = .ok (.iload_n 1, 1) := by decide +kernel
theorem dX5_putsBack_14 : decode cX5_putsBack 14 = .ok (.aload_n 0, 1) := by decide +kernel
theorem dX5_putsBack_15 : decode cX5_putsBack 15 = .ok (.getfield 16, 3) := by decide +kernel
theorem dX5_putsBack_18 : decode cX5_putsBack 18 = .ok (.iload_n 1, 1) := by decide +kernel
theorem dX5_putsBack_19 : decode cX5_putsBack 19 = .ok (.iaload, 1) := by decide +kernel
theorem dX5_putsBack_20 : decode cX5_putsBack 20 = .ok (.iastore, 1) := by decide +kernel
theorem dX5_putsBack_21 : decode cX5_putsBack 21 = .ok (.iinc 1 1, 3) := by decide +kernel
theorem dX5_putsBack_24 : decode cX5_putsBack 24 = .ok (.goto (-22), 3) := by decide +kernel
theorem dX5_putsBack_27 : decode cX5_putsBack 27 = .ok (.return_, 1) := by decide +kernel
