theorem dX5_worths_0 : decode cX5_worths 0 = .ok (.aload_n 0, 1) := by decide +kernel
theorem dX5_worths_1 : decode cX5_worths 1 = .ok (.getfield 7, 3) := by decide +kernel
theorem dX5_worths_4 : decode cX5_worths 4 = .ok (.iconst 0, 1) := by decide +kernel
theorem dX5_worths_5 : decode cX5_worths 5 = .ok (.iload_n 1, 1) := by decide +kernel
theorem dX5_worths_6 : decode cX5_worths 6 = .ok (.iadd, 1) := by decide +kernel
theorem dX5_worths_7 : decode cX5_worths 7 = .ok (.iload_n 2, 1) := by decide +kernel
theorem dX5_worths_8 : decode cX5_worths 8 = .ok (.iastore, 1) := by decide +kernel
theorem dX5_worths_9 : decode cX5_worths 9 = .ok (.iconst 0, 1) := by decide +kernel
theorem dX5_worths_10 : decode cX5_worths 10 = .ok (.istore_n 3, 1) := by decide +kernel
theorem dX5_worths_11 : decode cX5_worths 11 = .ok (.iload_n 3, 1) := by decide +kernel
theorem dX5_worths_12 : decode cX5_worths 12 = .ok (.aload_n 0, 1) := by decide +kernel
theorem dX5_worths_13 : decode cX5_worths 13 = .ok (.getfield 7, 3) := by decide +kernel
theorem dX5_worths_16 : decode cX5_worths 16 = .ok (.bipush 17, 2) := by decide +kernel
theorem dX5_worths_18 : decode cX5_worths 18 = .ok (.iaload, 1) := by decide +kernel
theorem dX5_worths_19 : decode cX5_worths 19 = .ok (.if_icmp .ge 68, 3) := by decide +kernel
theorem dX5_worths_22 : decode cX5_worths 22 = .ok (.iconst 0, 1) := by decide +kernel
theorem dX5_worths_23 : decode cX5_worths 23 = .ok (.istore 4, 2) := by decide +kernel
theorem dX5_worths_25 : decode cX5_worths 25 = .ok (.iload 4, 2) := by decide +kernel
theorem dX5_worths_27 : decode cX5_worths 27 = .ok (.iconst 2, 1) := by decide +kernel
theorem dX5_worths_28 : decode cX5_worths 28 = .ok (.if_icmp .ge 53, 3) := by decide +kernel
theorem dX5_worths_31 : decode cX5_worths 31 = .ok (.aload_n 0, 1) := by decide +kernel
theorem dX5_worths_32 : decode cX5_worths 32 = .ok (.getfield 7, 3) := by decide +kernel
theorem dX5_worths_35 : decode cX5_worths 35 = .ok (.iload_n 3, 1) := by decide +kernel
theorem dX5_worths_36 : decode cX5_worths 36 = .ok (.iload 4, 2) := by decide +kernel
theorem dX5_worths_38 : decode cX5_worths 38 = .ok (.iload_n 1, 1) := by decide +kernel
theorem dX5_worths_39 : decode cX5_worths 39 = .ok (.invokestatic 49, 3) := by decide +kernel
theorem dX5_worths_42 : decode cX5_worths 42 = .ok (.aload_n 0, 1) := by decide +kernel
theorem dX5_worths_43 : decode cX5_worths 43 = .ok (.getfield 7, 3) := by decide +kernel
theorem dX5_worths_46 : decode cX5_worths 46 = .ok (.iload_n 3, 1) := by decide +kernel
theorem dX5_worths_47 : decode cX5_worths 47 = .ok (.iload 4, 2) := by decide +kernel
theorem dX5_worths_49 : decode cX5_worths 49 = .ok (.iload_n 1, 1) := by decide +kernel
theorem dX5_worths_50 : decode cX5_worths 50 = .ok (.invokestatic 49, 3) := by decide +kernel
theorem dX5_worths_53 : decode cX5_worths 53 = .ok (.iaload, 1) := by decide +kernel
theorem dX5_worths_54 : decode cX5_worths 54 = .ok (.iload_n 2, 1) := by decide +kernel
theorem dX5_worths_55 : decode cX5_worths 55 = .ok (.if_icmp .le 7, 3) := by decide +kernel
theorem dX5_worths_58 : decode cX5_worths 58 = .ok (.iload_n 2, 1) := by decide +kernel
theorem dX5_worths_59 : decode cX5_worths 59 = .ok (.goto 15, 3) := by decide +kernel
theorem dX5_worths_62 : decode cX5_worths 62 = .ok (.aload_n 0, 1) := by decide +kernel
theorem dX5_worths_63 : decode cX5_worths 63 = .ok (.getfield 7, 3) := by decide +kernel
theorem dX5_worths_66 : decode cX5_worths 66 = .ok (.iload_n 3, 1) := by decide +kernel
theorem dX5_worths_67 : decode cX5_worths 67 = .ok (.iload 4, 2) := by decide +kernel
theorem dX5_worths_69 : decode cX5_worths 69 = .ok (.iload_n 1, 1) := by decide +kernel
theorem dX5_worths_70 : decode cX5_worths 70 = .ok (.invokestatic 49, 3) := by decide +kernel
theorem dX5_worths_73 : decode cX5_worths 73 = .ok (.iaload, 1) := by decide +kernel
theorem dX5_worths_74 : decode cX5_worths 74 = .ok (.iastore, 1) := by decide +kernel
theorem dX5_worths_75 : decode cX5_worths 75 = .ok (.iinc 4 1, 3) := by decide +kernel
theorem dX5_worths_78 : decode cX5_worths 78 = .ok (.goto (-53), 3) := by decide +kernel
theorem dX5_worths_81 : decode cX5_worths 81 = .ok (.iinc 3 1, 3) := by decide +kernel
theorem dX5_worths_84 : decode cX5_worths 84 = .ok (.goto (-73), 3) := by decide +kernel
theorem dX5_worths_87 : decode cX5_worths 87 = .ok (.return_, 1) := by decide +kernel
theorem dX5_worth_0 : decode cX5_worth 0 = .ok (.iload_n 1, 1) := by decide +kernel
theorem dX5_worth_1 : decode cX5_worth 1 = .ok (.invokestatic 53, 3) := by decide +kernel
theorem dX5_worth_4 : decode cX5_worth 4 = .ok (.ifCond .eq 15, 3) := by decide +kernel
theorem dX5_worth_7 : decode cX5_worth 7 = .ok (.iload_n 2, 1) := by decide +kernel
theorem dX5_worth_8 : decode cX5_worth 8 = .ok (.i2l, 1) := by decide +kernel
theorem dX5_worth_9 : decode cX5_worth 9 = .ok (.lconst 0, 1) := by decide +kernel
theorem dX5_worth_10 : decode cX5_worth 10 = .ok (.ldc2_w 57, 3) := by decide +kernel
theorem dX5_worth_13 : decode cX5_worth 13 = .ok (.invokestatic 43, 3) := by decide +kernel
theorem dX5_worth_16 : decode cX5_worth 16 = .ok (.ifCond .ne 10, 3) := by decide +kernel
theorem dX5_worth_19 : decode cX5_worth 19 = .ok (.aload_n 0, 1) := by decide +kernel
theorem dX5_worth_20 : decode cX5_worth 20 = .ok (.ldc 40, 2) := by decide +kernel
theorem dX5_worth_22 : decode cX5_worth 22 = .ok (.invokevirtual 59, 3) := by decide +kernel
theorem dX5_worth_25 : decode cX5_worth 25 = .ok (.ireturn, 1) := by decide +kernel
theorem dX5_worth_26 : decode cX5_worth 26 = .ok (.aload_n 0, 1) := by decide +kernel
theorem dX5_worth_27 : decode cX5_worth 27 = .ok (.getfield 7, 3) := by decide +kernel
theorem dX5_worth_30 : decode cX5_worth 30 = .ok (.iconst 0, 1) := by decide +kernel
theorem dX5_worth_31 : decode cX5_worth 31 = .ok (.iload_n 1, 1) := by decide +kernel
theorem dX5_worth_32 : decode cX5_worth 32 = .ok (.iadd, 1) := by decide +kernel
theorem dX5_worth_33 : decode cX5_worth 33 = .ok (.iaload, 1) := by decide +kernel
theorem dX5_worth_34 : decode cX5_worth 34 = .ok (.istore_n 3, 1) := by decide +kernel
theorem dX5_worth_35 : decode cX5_worth 35 = .ok (.aload_n 0, 1) := by decide +kernel
theorem dX5_worth_36 : decode cX5_worth 36 = .ok (.iload_n 1, 1) := by decide +kernel
theorem dX5_worth_37 : decode cX5_worth 37 = .ok (.iload_n 2, 1) := by decide +kernel
theorem dX5_worth_38 : decode cX5_worth 38 = .ok (.invokevirtual 63, 3) := by decide +kernel
theorem dX5_worth_41 : decode cX5_worth 41 = .ok (.iload_n 3, 1) := by decide +kernel
theorem dX5_worth_42 : decode cX5_worth 42 = .ok (.ireturn, 1) := by decide +kernel
theorem dX5_common_0 : decode cX5_common 0 = .ok (.iload_n 1, 1) := by decide +kernel
theorem dX5_common_1 : decode cX5_common 1 = .ok (.invokestatic 53, 3) := by decide +kernel
theorem dX5_common_4 : decode cX5_common 4 = .ok (.ifCond .eq 17, 3) := by decide +kernel
theorem dX5_common_7 : decode cX5_common 7 = .ok (.iload_n 2, 1) := by decide +kernel
theorem dX5_common_8 : decode cX5_common 8 = .ok (.i2l, 1) := by decide +kernel
theorem dX5_common_9 : decode cX5_common 9 = .ok (.ldc2_w 67, 3) := by decide +kernel
theorem dX5_common_12 : decode cX5_common 12 = .ok (.ldc2_w 47, 3) := by decide +kernel
theorem dX5_common_15 : decode cX5_common 15 = .ok (.invokestatic 43, 3) := by decide +kernel
theorem dX5_common_18 : decode cX5_common 18 = .ok (.ifCond .ne 10, 3) := by decide +kernel
theorem dX5_common_21 : decode cX5_common 21 = .ok (.aload_n 0, 1) := by decide +kernel
theorem dX5_common_22 : decode cX5_common 22 = .ok (.ldc 40, 2) := by decide +kernel
theorem dX5_common_24 : decode cX5_common 24 = .ok (.invokevirtual 59, 3) := by decide +kernel
theorem dX5_common_27 : decode cX5_common 27 = .ok (.ireturn, 1) := by decide +kernel
theorem dX5_common_28 : decode cX5_common 28 = .ok (.aload_n 0, 1) := by decide +kernel
theorem dX5_common_29 : decode cX5_common 29 = .ok (.getfield 7, 3) := by decide +kernel
theorem dX5_common_32 : decode cX5_common 32 = .ok (.bipush 8, 2) := by decide +kernel
theorem dX5_common_34 : decode cX5_common 34 = .ok (.iload_n 1, 1) := by decide +kernel
theorem dX5_common_35 : decode cX5_common 35 = .ok (.iadd, 1) := by decide +kernel
theorem dX5_common_36 : decode cX5_common 36 = .ok (.iaload, 1) := by decide +kernel
theorem dX5_common_37 : decode cX5_common 37 = .ok (.istore_n 3, 1) := by decide +kernel
theorem dX5_common_38 : decode cX5_common 38 = .ok (.aload_n 0, 1) := by decide +kernel
theorem dX5_common_39 : decode cX5_common 39 = .ok (.getfield 7, 3) := by decide +kernel
theorem dX5_common_42 : decode cX5_common 42 = .ok (.bipush 8, 2) := by decide +kernel
theorem dX5_common_44 : decode cX5_common 44 = .ok (.iload_n 1, 1) := by decide +kernel
theorem dX5_common_45 : decode cX5_common 45 = .ok (.iadd, 1) := by decide +kernel
theorem dX5_common_46 : decode cX5_common 46 = .ok (.iload_n 2, 1) := by decide +kernel
theorem dX5_common_47 : decode cX5_common 47 = .ok (.iastore, 1) := by decide +kernel
theorem dX5_common_48 : decode cX5_common 48 = .ok (.iload_n 3, 1) := by decide +kernel
theorem dX5_common_49 : decode cX5_common 49 = .ok (.ireturn, 1) := by decide +kernel
theorem dX5_newPupil_0 : decode cX5_newPupil 0 = .ok (.bipush 19, 2) := by decide +kernel
theorem dX5_newPupil_2 : decode cX5_newPupil 2 = .ok (.bipush 17, 2) := by decide +kernel
theorem dX5_newPupil_4 : decode cX5_newPupil 4 = .ok (.aload_n 0, 1) := by decide +kernel
theorem dX5_newPupil_5 : decode cX5_newPupil 5 = .ok (.getfield 7, 3) := by decide +kernel
theorem dX5_newPupil_8 : decode cX5_newPupil 8 = .ok (.bipush 17, 2) := by decide +kernel
theorem dX5_newPupil_10 : decode cX5_newPupil 10 = .ok (.iaload, 1) := by decide +kernel
theorem dX5_newPupil_11 : decode cX5_newPupil 11 = .ok (.imul, 1) := by decide +kernel
theorem dX5_newPupil_12 : decode cX5_newPupil 12 = .ok (.iadd, 1) := by decide +kernel
theorem dX5_newPupil_13 : decode cX5_newPupil 13 = .ok (.istore_n 2, 1) := by decide +kernel
theorem dX5_newPupil_14 : decode cX5_newPupil 14 = .ok (.aload_n 0, 1) := by decide +kernel
theorem dX5_newPupil_15 : decode cX5_newPupil 15 = .ok (.getfield 7, 3) := by decide +kernel
theorem dX5_newPupil_18 : decode cX5_newPupil 18 = .ok (.iload_n 2, 1) := by decide +kernel
theorem dX5_newPupil_19 : decode cX5_newPupil 19 = .ok (.iload_n 1, 1) := by decide +kernel
theorem dX5_newPupil_20 : decode cX5_newPupil 20 = .ok (.iastore, 1) := by decide +kernel
theorem dX5_newPupil_21 : decode cX5_newPupil 21 = .ok (.iconst 1, 1) := by decide +kernel
theorem dX5_newPupil_22 : decode cX5_newPupil 22 = .ok (.istore_n 3, 1) := by decide +kernel
theorem dX5_newPupil_23 : decode cX5_newPupil 23 = .ok (.iload_n 3, 1) := by decide +kernel
theorem dX5_newPupil_24 : decode cX5_newPupil 24 = .ok (.bipush 17, 2) := by decide +kernel
theorem dX5_newPupil_26 : decode cX5_newPupil 26 = .ok (.if_icmp .ge 18, 3) := by decide +kernel
theorem dX5_newPupil_29 : decode cX5_newPupil 29 = .ok (.aload_n 0, 1) := by decide +kernel
theorem dX5_newPupil_30 : decode cX5_newPupil 30 = .ok (.getfield 7, 3) := by decide +kernel
theorem dX5_newPupil_33 : decode cX5_newPupil 33 = .ok (.iload_n 2, 1) := by decide +kernel
theorem dX5_newPupil_34 : decode cX5_newPupil 34 = .ok (.iload_n 3, 1) := by decide +kernel
theorem dX5_newPupil_35 : decode cX5_newPupil 35 = .ok (.iadd, 1) := by decide +kernel
theorem dX5_newPupil_36 : decode cX5_newPupil 36 = .ok (.iconst 0, 1) := by decide +kernel
theorem dX5_newPupil_37 : decode cX5_newPupil 37 = .ok (.iastore, 1) := by decide +kernel
theorem dX5_newPupil_38 : decode cX5_newPupil 38 = .ok (.iinc 3 1, 3) := by decide +kernel
theorem dX5_newPupil_41 : decode cX5_newPupil 41 = .ok (.goto (-18), 3) := by decide +kernel
theorem dX5_newPupil_44 : decode cX5_newPupil 44 = .ok (.aload_n 0, 1) := by decide +kernel
theorem dX5_newPupil_45 : decode cX5_newPupil 45 = .ok (.getfield 7, 3) := by decide +kernel
theorem dX5_newPupil_48 : decode cX5_newPupil 48 = .ok (.bipush 17, 2) := by decide +kernel
theorem dX5_newPupil_50 : decode cX5_newPupil 50 = .ok (.dup2, 1) := by decide +kernel
theorem dX5_newPupil_51 : decode cX5_newPupil 51 = .ok (.iaload, 1) := by decide +kernel
theorem dX5_newPupil_52 : decode cX5_newPupil 52 = .ok (.iconst 1, 1) := by decide +kernel
theorem dX5_newPupil_53 : decode cX5_newPupil 53 = .ok (.iadd, 1) := by decide +kernel
theorem dX5_newPupil_54 : decode cX5_newPupil 54 = .ok (.iastore, 1) := by decide +kernel
theorem dX5_newPupil_55 : decode cX5_newPupil 55 = .ok (.aload_n 0, 1) := by decide +kernel
theorem dX5_newPupil_56 : decode cX5_newPupil 56 = .ok (.getfield 7, 3) := by decide +kernel
theorem dX5_newPupil_59 : decode cX5_newPupil 59 = .ok (.bipush 17, 2) := by decide +kernel
theorem dX5_newPupil_61 : decode cX5_newPupil 61 = .ok (.iaload, 1) := by decide +kernel
theorem dX5_newPupil_62 : decode cX5_newPupil 62 = .ok (.iconst 1, 1) := by decide +kernel
theorem dX5_newPupil_63 : decode cX5_newPupil 63 = .ok (.isub, 1) := by decide +kernel
theorem dX5_newPupil_64 : decode cX5_newPupil 64 = .ok (.ireturn, 1) := by decide +kernel
theorem dX5_pupil_0 : decode cX5_pupil 0 = .ok (.iload_n 1, 1) := by decide +kernel
theorem dX5_pupil_1 : decode cX5_pupil 1 = .ok (.i2l, 1) := by decide +kernel
theorem dX5_pupil_2 : decode cX5_pupil 2 = .ok (.lconst 0, 1) := by decide +kernel
theorem dX5_pupil_3 : decode cX5_pupil 3 = .ok (.ldc2_w 69, 3) := by decide +kernel
theorem dX5_pupil_6 : decode cX5_pupil 6 = .ok (.invokestatic 43, 3) := by decide +kernel
theorem dX5_pupil_9 : decode cX5_pupil 9 = .ok (.ifCond .ne 10, 3) := by decide +kernel
theorem dX5_pupil_12 : decode cX5_pupil 12 = .ok (.aload_n 0, 1) := by decide +kernel
theorem dX5_pupil_13 : decode cX5_pupil 13 = .ok (.ldc 40, 2) := by decide +kernel
theorem dX5_pupil_15 : decode cX5_pupil 15 = .ok (.invokevirtual 59, 3) := by decide +kernel
theorem dX5_pupil_18 : decode cX5_pupil 18 = .ok (.ireturn, 1) := by decide +kernel
theorem dX5_pupil_19 : decode cX5_pupil 19 = .ok (.aload_n 0, 1) := by decide +kernel
theorem dX5_pupil_20 : decode cX5_pupil 20 = .ok (.getfield 7, 3) := by decide +kernel
theorem dX5_pupil_23 : decode cX5_pupil 23 = .ok (.bipush 17, 2) := by decide +kernel
theorem dX5_pupil_25 : decode cX5_pupil 25 = .ok (.iaload, 1) := by decide +kernel
theorem dX5_pupil_26 : decode cX5_pupil 26 = .ok (.bipush 12, 2) := by decide +kernel
theorem dX5_pupil_28 : decode cX5_pupil 28 = .ok (.if_icmp .ne 12, 3) := by decide +kernel
theorem dX5_pupil_31 : decode cX5_pupil 31 = .ok (.aload_n 0, 1) := by decide +kernel
theorem dX5_pupil_32 : decode cX5_pupil 32 = .ok (.ldc 71, 2) := by decide +kernel
theorem dX5_pupil_34 : decode cX5_pupil 34 = .ok (.invokevirtual 59, 3) := by decide +kernel
theorem dX5_pupil_37 : decode cX5_pupil 37 = .ok (.goto 8, 3) := by decide +kernel
theorem dX5_pupil_40 : decode cX5_pupil 40 = .ok (.aload_n 0, 1) := by decide +kernel
theorem dX5_pupil_41 : decode cX5_pupil 41 = .ok (.iload_n 1, 1) := by decide +kernel
theorem dX5_pupil_42 : decode cX5_pupil 42 = .ok (.invokevirtual 72, 3) := by decide +kernel
theorem dX5_pupil_45 : decode cX5_pupil 45 = .ok (.ireturn, 1) := by decide +kernel
theorem dX5_point_0 : decode cX5_point 0 = .ok (.aload_n 0, 1) := by decide +kernel
theorem dX5_point_1 : decode cX5_point 1 = .ok (.iload_n 1, 1) := by decide +kernel
theorem dX5_point_2 : decode cX5_point 2 = .ok (.invokevirtual 75, 3) := by decide +kernel
theorem dX5_point_5 : decode cX5_point 5 = .ok (.ifCond .eq 39, 3) := by decide +kernel
theorem dX5_point_8 : decode cX5_point 8 = .ok (.iload_n 2, 1) := by decide +kernel
theorem dX5_point_9 : decode cX5_point 9 = .ok (.invokestatic 53, 3) := by decide +kernel
theorem dX5_point_12 : decode cX5_point 12 = .ok (.ifCond .eq 32, 3) := by decide +kernel
theorem dX5_point_15 : decode cX5_point 15 = .ok (.iload_n 3, 1) := by decide +kernel
theorem dX5_point_16 : decode cX5_point 16 = .ok (.i2l, 1) := by decide +kernel
theorem dX5_point_17 : decode cX5_point 17 = .ok (.lconst 0, 1) := by decide +kernel
theorem dX5_point_18 : decode cX5_point 18 = .ok (.lconst 1, 1) := by decide +kernel
theorem dX5_point_19 : decode cX5_point 19 = .ok (.invokestatic 43, 3) := by decide +kernel
theorem dX5_point_22 : decode cX5_point 22 = .ok (.ifCond .eq 22, 3) := by decide +kernel
theorem dX5_point_25 : decode cX5_point 25 = .ok (.iload 4, 2) := by decide +kernel
theorem dX5_point_27 : decode cX5_point 27 = .ok (.i2l, 1) := by decide +kernel
theorem dX5_point_28 : decode cX5_point 28 = .ok (.lconst 0, 1) := by decide +kernel
theorem dX5_point_29 : decode cX5_point 29 = .ok (.aload_n 0, 1) := by decide +kernel
theorem dX5_point_30 : decode cX5_point 30 = .ok (.getfield 7, 3) := by decide +kernel
theorem dX5_point_33 : decode cX5_point 33 = .ok (.iconst 0, 1) := by decide +kernel
theorem dX5_point_34 : decode cX5_point 34 = .ok (.iload_n 2, 1) := by decide +kernel
theorem dX5_point_35 : decode cX5_point 35 = .ok (.iadd, 1) := by decide +kernel
theorem dX5_point_36 : decode cX5_point 36 = .ok (.iaload, 1) := by decide +kernel
theorem dX5_point_37 : decode cX5_point 37 = .ok (.i2l, 1) := by decide +kernel
theorem dX5_point_38 : decode cX5_point 38 = .ok (.invokestatic 43, 3) := by decide +kernel
theorem dX5_point_41 : decode cX5_point 41 = .ok (.ifCond .ne 10, 3) := by decide +kernel
theorem dX5_point_44 : decode cX5_point 44 = .ok (.aload_n 0, 1) := by decide +kernel
theorem dX5_point_45 : decode cX5_point 45 = .ok (.ldc 40, 2) := by decide +kernel
theorem dX5_point_47 : decode cX5_point 47 = .ok (.invokevirtual 59, 3) := by decide +kernel
theorem dX5_point_50 : decode cX5_point 50 = .ok (.ireturn, 1) := by decide +kernel
theorem dX5_point_51 : decode cX5_point 51 = .ok (.aload_n 0, 1) := by decide +kernel
theorem dX5_point_52 : decode cX5_point 52 = .ok (.getfield 7, 3) := by decide +kernel
theorem dX5_point_55 : decode cX5_point 55 = .ok (.iload_n 1, 1) := by decide +kernel
theorem dX5_point_56 : decode cX5_point 56 = .ok (.iload_n 3, 1) := by decide +kernel
theorem dX5_point_57 : decode cX5_point 57 = .ok (.iload_n 2, 1) := by decide +kernel
theorem dX5_point_58 : decode cX5_point 58 = .ok (.invokestatic 49, 3) := by decide +kernel
theorem dX5_point_61 : decode cX5_point 61 = .ok (.iaload, 1) := by decide +kernel
theorem dX5_point_62 : decode cX5_point 62 = .ok (.istore 5, 2) := by decide +kernel
theorem dX5_point_64 : decode cX5_point 64 = .ok (.aload_n 0, 1) := by decide +kernel
theorem dX5_point_65 : decode cX5_point 65 = .ok (.getfield 7, 3) := by decide +kernel
theorem dX5_point_68 : decode cX5_point 68 = .ok (.iload_n 1, 1) := by decide +kernel
theorem dX5_point_69 : decode cX5_point 69 = .ok (.iload_n 3, 1) := by decide +kernel
theorem dX5_point_70 : decode cX5_point 70 = .ok (.iload_n 2, 1) := by decide +kernel
theorem dX5_point_71 : decode cX5_point 71 = .ok (.invokestatic 49, 3) := by decide +kernel
theorem dX5_point_74 : decode cX5_point 74 = .ok (.iload 4, 2) := by decide +kernel
theorem dX5_point_76 : decode cX5_point 76 = .ok (.iastore, 1) := by decide +kernel
theorem dX5_point_77 : decode cX5_point 77 = .ok (.iload 5, 2) := by decide +kernel
theorem dX5_point_79 : decode cX5_point 79 = .ok (.ireturn, 1) := by decide +kernel
theorem dX5_score_0 : decode cX5_score 0 = .ok (.aload_n 0, 1) := by decide +kernel
theorem dX5_score_1 : decode cX5_score 1 = .ok (.getfield 7, 3) := by decide +kernel
theorem dX5_score_4 : decode cX5_score 4 = .ok (.iload_n 1, 1) := by decide +kernel
theorem dX5_score_5 : decode cX5_score 5 = .ok (.iconst 0, 1) := by decide +kernel
theorem dX5_score_6 : decode cX5_score 6 = .ok (.iload_n 2, 1) := by decide +kernel
theorem dX5_score_7 : decode cX5_score 7 = .ok (.invokestatic 49, 3) := by decide +kernel
theorem dX5_score_10 : decode cX5_score 10 = .ok (.iaload, 1) := by decide +kernel
theorem dX5_score_11 : decode cX5_score 11 = .ok (.aload_n 0, 1) := by decide +kernel
theorem dX5_score_12 : decode cX5_score 12 = .ok (.getfield 7, 3) := by decide +kernel
theorem dX5_score_15 : decode cX5_score 15 = .ok (.iload_n 1, 1) := by decide +kernel
theorem dX5_score_16 : decode cX5_score 16 = .ok (.iconst 1, 1) := by decide +kernel
theorem dX5_score_17 : decode cX5_score 17 = .ok (.iload_n 2, 1) := by decide +kernel
theorem dX5_score_18 : decode cX5_score 18 = .ok (.invokestatic 49, 3) := by decide +kernel
theorem dX5_score_21 : decode cX5_score 21 = .ok (.iaload, 1) := by decide +kernel
theorem dX5_score_22 : decode cX5_score 22 = .ok (.iadd, 1) := by decide +kernel
theorem dX5_score_23 : decode cX5_score 23 = .ok (.iconst 2, 1) := by decide +kernel
theorem dX5_score_24 : decode cX5_score 24 = .ok (.idiv, 1) := by decide +kernel
theorem dX5_score_25 : decode cX5_score 25 = .ok (.ireturn, 1) := by decide +kernel
theorem dX5_raw_0 : decode cX5_raw 0 = .ok (.iconst 0, 1) := by decide +kernel
theorem dX5_raw_1 : decode cX5_raw 1 = .ok (.istore_n 2, 1) := by decide +kernel
theorem dX5_raw_2 : decode cX5_raw 2 = .ok (.iconst 0, 1) := by decide +kernel
theorem dX5_raw_3 : decode cX5_raw 3 = .ok (.istore_n 3, 1) := by decide +kernel
theorem dX5_raw_4 : decode cX5_raw 4 = .ok (.iload_n 3, 1) := by decide +kernel
theorem dX5_raw_5 : decode cX5_raw 5 = .ok (.bipush 8, 2) := by decide +kernel
theorem dX5_raw_7 : decode cX5_raw 7 = .ok (.if_icmp .ge 18, 3) := by decide +kernel
theorem dX5_raw_10 : decode cX5_raw 10 = .ok (.iload_n 2, 1) := by decide +kernel
theorem dX5_raw_11 : decode cX5_raw 11 = .ok (.aload_n 0, 1) := by decide +kernel
theorem dX5_raw_12 : decode cX5_raw 12 = .ok (.iload_n 1, 1) := by decide +kernel
theorem dX5_raw_13 : decode cX5_raw 13 = .ok (.iload_n 3, 1) := by decide +kernel
theorem dX5_raw_14 : decode cX5_raw 14 = .ok (.invokevirtual 78, 3) := by decide +kernel
theorem dX5_raw_17 : decode cX5_raw 17 = .ok (.iadd, 1) := by decide +kernel
theorem dX5_raw_18 : decode cX5_raw 18 = .ok (.istore_n 2, 1) := by decide +kernel
theorem dX5_raw_19 : decode cX5_raw 19 = .ok (.iinc 3 1, 3) := by decide +kernel
theorem dX5_raw_22 : decode cX5_raw 22 = .ok (.goto (-18), 3) := by decide +kernel
theorem dX5_raw_25 : decode cX5_raw 25 = .ok (.iload_n 2, 1) := by decide +kernel
theorem dX5_raw_26 : decode cX5_raw 26 = .ok (.ireturn, 1) := by decide +kernel
theorem dX5_full_0 : decode cX5_full 0 = .ok (.iconst 0, 1) := by decide +kernel
theorem dX5_full_1 : decode cX5_full 1 = .ok (.istore_n 1, 1) := by decide +kernel
theorem dX5_full_2 : decode cX5_full 2 = .ok (.iconst 0, 1) := by decide +kernel
theorem dX5_full_3 : decode cX5_full 3 = .ok (.istore_n 2, 1) := by decide +kernel
theorem dX5_full_4 : decode cX5_full 4 = .ok (.iload_n 2, 1) := by decide +kernel
theorem dX5_full_5 : decode cX5_full 5 = .ok (.bipush 8, 2) := by decide +kernel
theorem dX5_full_7 : decode cX5_full 7 = .ok (.if_icmp .ge 20, 3) := by decide +kernel
theorem dX5_full_10 : decode cX5_full 10 = .ok (.iload_n 1, 1) := by decide +kernel
theorem dX5_full_11 : decode cX5_full 11 = .ok (.aload_n 0, 1) := by decide +kernel
theorem dX5_full_12 : decode cX5_full 12 = .ok (.getfield 7, 3) := by decide +kernel
theorem dX5_full_15 : decode cX5_full 15 = .ok (.iconst 0, 1) := by decide +kernel
theorem dX5_full_16 : decode cX5_full 16 = .ok (.iload_n 2, 1) := by decide +kernel
theorem dX5_full_17 : decode cX5_full 17 = .ok (.iadd, 1) := by decide +kernel
theorem dX5_full_18 : decode cX5_full 18 = .ok (.iaload, 1) := by decide +kernel
theorem dX5_full_19 : decode cX5_full 19 = .ok (.iadd, 1) := by decide +kernel
theorem dX5_full_20 : decode cX5_full 20 = .ok (.istore_n 1, 1) := by decide +kernel
theorem dX5_full_21 : decode cX5_full 21 = .ok (.iinc 2 1, 3) := by decide +kernel
theorem dX5_full_24 : decode cX5_full 24 = .ok (.goto (-20), 3) := by decide +kernel
theorem dX5_full_27 : decode cX5_full 27 = .ok (.iload_n 1, 1) := by decide +kernel
theorem dX5_full_28 : decode cX5_full 28 = .ok (.ireturn, 1) := by decide +kernel
theorem dX5_pupilOf_0 : decode cX5_pupilOf 0 = .ok (.aload_n 0, 1) := by decide +kernel
theorem dX5_pupilOf_1 : decode cX5_pupilOf 1 = .ok (.iload_n 1, 1) := by decide +kernel
theorem dX5_pupilOf_2 : decode cX5_pupilOf 2 = .ok (.invokevirtual 75, 3) := by decide +kernel
theorem dX5_pupilOf_5 : decode cX5_pupilOf 5 = .ok (.ifCond .eq 15, 3) := by decide +kernel
theorem dX5_pupilOf_8 : decode cX5_pupilOf 8 = .ok (.iload_n 2, 1) := by decide +kernel
theorem dX5_pupilOf_9 : decode cX5_pupilOf 9 = .ok (.i2l, 1) := by decide +kernel
theorem dX5_pupilOf_10 : decode cX5_pupilOf 10 = .ok (.lconst 0, 1) := by decide +kernel
theorem dX5_pupilOf_11 : decode cX5_pupilOf 11 = .ok (.ldc2_w 82, 3) := by decide +kernel
theorem dX5_pupilOf_14 : decode cX5_pupilOf 14 = .ok (.invokestatic 43, 3) := by decide +kernel
theorem dX5_pupilOf_17 : decode cX5_pupilOf 17 = .ok (.ifCond .ne 10, 3) := by decide +kernel
theorem dX5_pupilOf_20 : decode cX5_pupilOf 20 = .ok (.aload_n 0, 1) := by decide +kernel
theorem dX5_pupilOf_21 : decode cX5_pupilOf 21 = .ok (.ldc 40, 2) := by decide +kernel
theorem dX5_pupilOf_23 : decode cX5_pupilOf 23 = .ok (.invokevirtual 59, 3) := by decide +kernel
theorem dX5_pupilOf_26 : decode cX5_pupilOf 26 = .ok (.ireturn, 1) := by decide +kernel
theorem dX5_pupilOf_27 : decode cX5_pupilOf 27 = .ok (.iload_n 2, 1) := by decide +kernel
theorem dX5_pupilOf_28 : decode cX5_pupilOf 28 = .ok (.ifCond .ne 18, 3) := by decide +kernel
theorem dX5_pupilOf_31 : decode cX5_pupilOf 31 = .ok (.aload_n 0, 1) := by decide +kernel
theorem dX5_pupilOf_32 : decode cX5_pupilOf 32 = .ok (.getfield 7, 3) := by decide +kernel
theorem dX5_pupilOf_35 : decode cX5_pupilOf 35 = .ok (.bipush 19, 2) := by decide +kernel
theorem dX5_pupilOf_37 : decode cX5_pupilOf 37 = .ok (.bipush 17, 2) := by decide +kernel
theorem dX5_pupilOf_39 : decode cX5_pupilOf 39 = .ok (.iload_n 1, 1) := by decide +kernel
theorem dX5_pupilOf_40 : decode cX5_pupilOf 40 = .ok (.imul, 1) := by decide +kernel
theorem dX5_pupilOf_41 : decode cX5_pupilOf 41 = .ok (.iadd, 1) := by decide +kernel
theorem dX5_pupilOf_42 : decode cX5_pupilOf 42 = .ok (.iaload, 1) := by decide +kernel
theorem dX5_pupilOf_43 : decode cX5_pupilOf 43 = .ok (.goto 24, 3) := by decide +kernel
theorem dX5_pupilOf_46 : decode cX5_pupilOf 46 = .ok (.iload_n 2, 1) := by decide +kernel
theorem dX5_pupilOf_47 : decode cX5_pupilOf 47 = .ok (.iconst 1, 1) := by decide +kernel
theorem dX5_pupilOf_48 : decode cX5_pupilOf 48 = .ok (.if_icmp .ne 11, 3) := by decide +kernel
theorem dX5_pupilOf_51 : decode cX5_pupilOf 51 = .ok (.aload_n 0, 1) := by decide +kernel
theorem dX5_pupilOf_52 : decode cX5_pupilOf 52 = .ok (.iload_n 1, 1) := by decide +kernel
theorem dX5_pupilOf_53 : decode cX5_pupilOf 53 = .ok (.invokevirtual 84, 3) := by decide +kernel
theorem dX5_pupilOf_56 : decode cX5_pupilOf 56 = .ok (.goto 11, 3) := by decide +kernel
theorem dX5_pupilOf_59 : decode cX5_pupilOf 59 = .ok (.aload_n 0, 1) := by decide +kernel
theorem dX5_pupilOf_60 : decode cX5_pupilOf 60 = .ok (.iload_n 1, 1) := by decide +kernel
theorem dX5_pupilOf_61 : decode cX5_pupilOf 61 = .ok (.iload_n 2, 1) := by decide +kernel
theorem dX5_pupilOf_62 : decode cX5_pupilOf 62 = .ok (.iconst 2, 1) := by decide +kernel
theorem dX5_pupilOf_63 : decode cX5_pupilOf 63 = .ok (.isub, 1) := by decide +kernel
theorem dX5_pupilOf_64 : decode cX5_pupilOf 64 = .ok (.invokevirtual 78, 3) := by decide +kernel
theorem dX5_pupilOf_67 : decode cX5_pupilOf 67 = .ok (.ireturn, 1) := by decide +kernel
theorem dX5_greatest_0 : decode cX5_greatest 0 = .ok (.iconst 0, 1) := by decide +kernel
theorem dX5_greatest_1 : decode cX5_greatest 1 = .ok (.istore_n 1, 1) := by decide +kernel
theorem dX5_greatest_2 : decode cX5_greatest 2 = .ok (.iconst 0, 1) := by decide +kernel
theorem dX5_greatest_3 : decode cX5_greatest 3 = .ok (.istore_n 2, 1) := by decide +kernel
theorem dX5_greatest_4 : decode cX5_greatest 4 = .ok (.iload_n 2, 1) := by decide +kernel
theorem dX5_greatest_5 : decode cX5_greatest 5 = .ok (.aload_n 0, 1) := by decide +kernel
theorem dX5_greatest_6 : decode cX5_greatest 6 = .ok (.getfield 7, 3) := by decide +kernel
theorem dX5_greatest_9 : decode cX5_greatest 9 = .ok (.bipush 17, 2) := by decide +kernel
theorem dX5_greatest_11 : decode cX5_greatest 11 = .ok (.iaload, 1) := by decide +kernel
theorem dX5_greatest_12 : decode cX5_greatest 12 = .ok (.if_icmp .ge 26, 3) := by decide +kernel
theorem dX5_greatest_15 : decode cX5_greatest 15 = .ok (.aload_n 0, 1) := by decide +kernel
theorem dX5_greatest_16 : decode cX5_greatest 16 = .ok (.iload_n 2, 1) := by decide +kernel
theorem dX5_greatest_17 : decode cX5_greatest 17 = .ok (.invokevirtual 84, 3) := by decide +kernel
theorem dX5_greatest_20 : decode cX5_greatest 20 = .ok (.istore_n 3, 1) := by decide +kernel
theorem dX5_greatest_21 : decode cX5_greatest 21 = .ok (.iload_n 3, 1) := by decide +kernel
theorem dX5_greatest_22 : decode cX5_greatest 22 = .ok (.iload_n 1, 1) := by decide +kernel
theorem dX5_greatest_23 : decode cX5_greatest 23 = .ok (.if_icmp .le 7, 3) := by decide +kernel
theorem dX5_greatest_26 : decode cX5_greatest 26 = .ok (.iload_n 3, 1) := by decide +kernel
theorem dX5_greatest_27 : decode cX5_greatest 27 = .ok (.goto 4, 3) := by decide +kernel
theorem dX5_greatest_30 : decode cX5_greatest 30 = .ok (.iload_n 1, 1) := by decide +kernel
theorem dX5_greatest_31 : decode cX5_greatest 31 = .ok (.istore_n 1, 1) := by decide +kernel
theorem dX5_greatest_32 : decode cX5_greatest 32 = .ok (.iinc 2 1, 3) := by decide +kernel
theorem dX5_greatest_35 : decode cX5_greatest 35 = .ok (.goto (-31), 3) := by decide +kernel
theorem dX5_greatest_38 : decode cX5_greatest 38 = .ok (.iload_n 1, 1) := by decide +kernel
theorem dX5_greatest_39 : decode cX5_greatest 39 = .ok (.ireturn, 1) := by decide +kernel
theorem dX5_oldMean_0 : decode cX5_oldMean 0 = .ok (.iconst 0, 1) := by decide +kernel
theorem dX5_oldMean_1 : decode cX5_oldMean 1 = .ok (.istore_n 1, 1) := by decide +kernel
theorem dX5_oldMean_2 : decode cX5_oldMean 2 = .ok (.iconst 0, 1) := by decide +kernel
theorem dX5_oldMean_3 : decode cX5_oldMean 3 = .ok (.istore_n 2, 1) := by decide +kernel
theorem dX5_oldMean_4 : decode cX5_oldMean 4 = .ok (.iload_n 2, 1) := by decide +kernel
theorem dX5_oldMean_5 : decode cX5_oldMean 5 = .ok (.bipush 8, 2) := by decide +kernel
theorem dX5_oldMean_7 : decode cX5_oldMean 7 = .ok (.if_icmp .ge 37, 3) := by decide +kernel
theorem dX5_oldMean_10 : decode cX5_oldMean 10 = .ok (.iload_n 1, 1) := by decide +kernel
theorem dX5_oldMean_11 : decode cX5_oldMean 11 = .ok (.aload_n 0, 1) := by decide +kernel
theorem dX5_oldMean_12 : decode cX5_oldMean 12 = .ok (.getfield 7, 3) := by decide +kernel
theorem dX5_oldMean_15 : decode cX5_oldMean 15 = .ok (.bipush 8, 2) := by decide +kernel
theorem dX5_oldMean_17 : decode cX5_oldMean 17 = .ok (.iload_n 2, 1) := by decide +kernel
theorem dX5_oldMean_18 : decode cX5_oldMean 18 = .ok (.iadd, 1) := by decide +kernel
theorem dX5_oldMean_19 : decode cX5_oldMean 19 = .ok (.iaload, 1) := by decide +kernel
theorem dX5_oldMean_20 : decode cX5_oldMean 20 = .ok (.ifCond .ge 7, 3) := by decide +kernel
theorem dX5_oldMean_23 : decode cX5_oldMean 23 = .ok (.iconst 0, 1) := by decide +kernel
theorem dX5_oldMean_24 : decode cX5_oldMean 24 = .ok (.goto 12, 3) := by decide +kernel
theorem dX5_oldMean_27 : decode cX5_oldMean 27 = .ok (.aload_n 0, 1) := by decide +kernel
theorem dX5_oldMean_28 : decode cX5_oldMean 28 = .ok (.getfield 7, 3) := by decide +kernel
theorem dX5_oldMean_31 : decode cX5_oldMean 31 = .ok (.bipush 8, 2) := by decide +kernel
theorem dX5_oldMean_33 : decode cX5_oldMean 33 = .ok (.iload_n 2, 1) := by decide +kernel
theorem dX5_oldMean_34 : decode cX5_oldMean 34 = .ok (.iadd, 1) := by decide +kernel
theorem dX5_oldMean_35 : decode cX5_oldMean 35 = .ok (.iaload, 1) := by decide +kernel
theorem dX5_oldMean_36 : decode cX5_oldMean 36 = .ok (.iadd, 1) := by decide +kernel
theorem dX5_oldMean_37 : decode cX5_oldMean 37 = .ok (.istore_n 1, 1) := by decide +kernel
theorem dX5_oldMean_38 : decode cX5_oldMean 38 = .ok (.iinc 2 1, 3) := by decide +kernel
theorem dX5_oldMean_41 : decode cX5_oldMean 41 = .ok (.goto (-37), 3) := by decide +kernel
theorem dX5_oldMean_44 : decode cX5_oldMean 44 = .ok (.iload_n 1, 1) := by decide +kernel
theorem dX5_oldMean_45 : decode cX5_oldMean 45 = .ok (.ireturn, 1) := by decide +kernel
theorem dX5_newMean_0 : decode cX5_newMean 0 = .ok (.iconst 0, 1) := by decide +kernel
theorem dX5_newMean_1 : decode cX5_newMean 1 = .ok (.istore_n 1, 1) := by decide +kernel
theorem dX5_newMean_2 : decode cX5_newMean 2 = .ok (.iconst 0, 1) := by decide +kernel
theorem dX5_newMean_3 : decode cX5_newMean 3 = .ok (.istore_n 2, 1) := by decide +kernel
theorem dX5_newMean_4 : decode cX5_newMean 4 = .ok (.iload_n 2, 1) := by decide +kernel
theorem dX5_newMean_5 : decode cX5_newMean 5 = .ok (.bipush 8, 2) := by decide +kernel
theorem dX5_newMean_7 : decode cX5_newMean 7 = .ok (.if_icmp .ge 49, 3) := by decide +kernel
theorem dX5_newMean_10 : decode cX5_newMean 10 = .ok (.iconst 0, 1) := by decide +kernel
theorem dX5_newMean_11 : decode cX5_newMean 11 = .ok (.istore_n 3, 1) := by decide +kernel
theorem dX5_newMean_12 : decode cX5_newMean 12 = .ok (.iload_n 3, 1) := by decide +kernel
theorem dX5_newMean_13 : decode cX5_newMean 13 = .ok (.aload_n 0, 1) := by decide +kernel
theorem dX5_newMean_14 : decode cX5_newMean 14 = .ok (.getfield 7, 3) := by decide +kernel
theorem dX5_newMean_17 : decode cX5_newMean 17 = .ok (.bipush 17, 2) := by decide +kernel
theorem dX5_newMean_19 : decode cX5_newMean 19 = .ok (.iaload, 1) := by decide +kernel
theorem dX5_newMean_20 : decode cX5_newMean 20 = .ok (.if_icmp .ge 30, 3) := by decide +kernel
theorem dX5_newMean_23 : decode cX5_newMean 23 = .ok (.aload_n 0, 1) := by decide +kernel
theorem dX5_newMean_24 : decode cX5_newMean 24 = .ok (.getfield 7, 3) := by decide +kernel
theorem dX5_newMean_27 : decode cX5_newMean 27 = .ok (.bipush 8, 2) := by decide +kernel
theorem dX5_newMean_29 : decode cX5_newMean 29 = .ok (.iload_n 2, 1) := by decide +kernel
theorem dX5_newMean_30 : decode cX5_newMean 30 = .ok (.iadd, 1) := by decide +kernel
theorem dX5_newMean_31 : decode cX5_newMean 31 = .ok (.iaload, 1) := by decide +kernel
theorem dX5_newMean_32 : decode cX5_newMean 32 = .ok (.ifCond .lt 18, 3) := by decide +kernel
theorem dX5_newMean_35 : decode cX5_newMean 35 = .ok (.iload_n 1, 1) := by decide +kernel
theorem dX5_newMean_36 : decode cX5_newMean 36 = .ok (.aload_n 0, 1) := by decide +kernel
theorem dX5_newMean_37 : decode cX5_newMean 37 = .ok (.iload_n 3, 1) := by decide +kernel
theorem dX5_newMean_38 : decode cX5_newMean 38 = .ok (.iload_n 2, 1) := by decide +kernel
theorem dX5_newMean_39 : decode cX5_newMean 39 = .ok (.invokevirtual 78, 3) := by decide +kernel
theorem dX5_newMean_42 : decode cX5_newMean 42 = .ok (.iadd, 1) := by decide +kernel
theorem dX5_newMean_43 : decode cX5_newMean 43 = .ok (.istore_n 1, 1) := by decide +kernel
theorem dX5_newMean_44 : decode cX5_newMean 44 = .ok (.iinc 3 1, 3) := by decide +kernel
theorem dX5_newMean_47 : decode cX5_newMean 47 = .ok (.goto (-35), 3) := by decide +kernel
theorem dX5_newMean_50 : decode cX5_newMean 50 = .ok (.iinc 2 1, 3) := by decide +kernel
theorem dX5_newMean_53 : decode cX5_newMean 53 = .ok (.goto (-49), 3) := by decide +kernel
theorem dX5_newMean_56 : decode cX5_newMean 56 = .ok (.bipush 10, 2) := by decide +kernel
theorem dX5_newMean_58 : decode cX5_newMean 58 = .ok (.iload_n 1, 1) := by decide +kernel
theorem dX5_newMean_59 : decode cX5_newMean 59 = .ok (.imul, 1) := by decide +kernel
theorem dX5_newMean_60 : decode cX5_newMean 60 = .ok (.aload_n 0, 1) := by decide +kernel
theorem dX5_newMean_61 : decode cX5_newMean 61 = .ok (.getfield 7, 3) := by decide +kernel
theorem dX5_newMean_64 : decode cX5_newMean 64 = .ok (.bipush 17, 2) := by decide +kernel
theorem dX5_newMean_66 : decode cX5_newMean 66 = .ok (.iaload, 1) := by decide +kernel
theorem dX5_newMean_67 : decode cX5_newMean 67 = .ok (.idiv, 1) := by decide +kernel
theorem dX5_newMean_68 : decode cX5_newMean 68 = .ok (.ireturn, 1) := by decide +kernel
theorem dX5_commons_0 : decode cX5_commons 0 = .ok (.iconst 0, 1) := by decide +kernel
theorem dX5_commons_1 : decode cX5_commons 1 = .ok (.istore_n 1, 1) := by decide +kernel
theorem dX5_commons_2 : decode cX5_commons 2 = .ok (.iconst 0, 1) := by decide +kernel
theorem dX5_commons_3 : decode cX5_commons 3 = .ok (.istore_n 2, 1) := by decide +kernel
theorem dX5_commons_4 : decode cX5_commons 4 = .ok (.iload_n 2, 1) := by decide +kernel
theorem dX5_commons_5 : decode cX5_commons 5 = .ok (.bipush 8, 2) := by decide +kernel
theorem dX5_commons_7 : decode cX5_commons 7 = .ok (.if_icmp .ge 31, 3) := by decide +kernel
theorem dX5_commons_10 : decode cX5_commons 10 = .ok (.iload_n 1, 1) := by decide +kernel
theorem dX5_commons_11 : decode cX5_commons 11 = .ok (.aload_n 0, 1) := by decide +kernel
theorem dX5_commons_12 : decode cX5_commons 12 = .ok (.getfield 7, 3) := by decide +kernel
theorem dX5_commons_15 : decode cX5_commons 15 = .ok (.bipush 8, 2) := by decide +kernel
theorem dX5_commons_17 : decode cX5_commons 17 = .ok (.iload_n 2, 1) := by decide +kernel
theorem dX5_commons_18 : decode cX5_commons 18 = .ok (.iadd, 1) := by decide +kernel
theorem dX5_commons_19 : decode cX5_commons 19 = .ok (.iaload, 1) := by decide +kernel
theorem dX5_commons_20 : decode cX5_commons 20 = .ok (.ifCond .ge 7, 3) := by decide +kernel
theorem dX5_commons_23 : decode cX5_commons 23 = .ok (.iconst 0, 1) := by decide +kernel
theorem dX5_commons_24 : decode cX5_commons 24 = .ok (.goto 6, 3) := by decide +kernel
theorem dX5_commons_27 : decode cX5_commons 27 = .ok (.iconst 1, 1) := by decide +kernel
theorem dX5_commons_28 : decode cX5_commons 28 = .ok (.iload_n 2, 1) := by decide +kernel
theorem dX5_commons_29 : decode cX5_commons 29 = .ok (.ishl, 1) := by decide +kernel
theorem dX5_commons_30 : decode cX5_commons 30 = .ok (.ior, 1) := by decide +kernel
theorem dX5_commons_31 : decode cX5_commons 31 = .ok (.istore_n 1, 1) := by decide +kernel
theorem dX5_commons_32 : decode cX5_commons 32 = .ok (.iinc 2 1, 3) := by decide +kernel
theorem dX5_commons_35 : decode cX5_commons 35 = .ok (.goto (-31), 3) := by decide +kernel
theorem dX5_commons_38 : decode cX5_commons 38 = .ok (.iload_n 1, 1) := by decide +kernel
theorem dX5_commons_39 : decode cX5_commons 39 = .ok (.ireturn, 1) := by decide +kernel
theorem dX5_paper_0 : decode cX5_paper 0 = .ok (.iload_n 1, 1) := by decide +kernel
theorem dX5_paper_1 : decode cX5_paper 1 = .ok (.i2l, 1) := by decide +kernel
theorem dX5_paper_2 : decode cX5_paper 2 = .ok (.lconst 0, 1) := by decide +kernel
theorem dX5_paper_3 : decode cX5_paper 3 = .ok (.ldc2_w 87, 3) := by decide +kernel
theorem dX5_paper_6 : decode cX5_paper 6 = .ok (.invokestatic 43, 3) := by decide +kernel
theorem dX5_paper_9 : decode cX5_paper 9 = .ok (.ifCond .ne 10, 3) := by decide +kernel
theorem dX5_paper_12 : decode cX5_paper 12 = .ok (.aload_n 0, 1) := by decide +kernel
theorem dX5_paper_13 : decode cX5_paper 13 = .ok (.ldc 40, 2) := by decide +kernel
theorem dX5_paper_15 : decode cX5_paper 15 = .ok (.invokevirtual 59, 3) := by decide +kernel
theorem dX5_paper_18 : decode cX5_paper 18 = .ok (.ireturn, 1) := by decide +kernel
theorem dX5_paper_19 : decode cX5_paper 19 = .ok (.aload_n 0, 1) := by decide +kernel
theorem dX5_paper_20 : decode cX5_paper 20 = .ok (.getfield 7, 3) := by decide +kernel
theorem dX5_paper_23 : decode cX5_paper 23 = .ok (.bipush 17, 2) := by decide +kernel
theorem dX5_paper_25 : decode cX5_paper 25 = .ok (.iaload, 1) := by decide +kernel
theorem dX5_paper_26 : decode cX5_paper 26 = .ok (.ifCond .ne 20, 3) := by decide +kernel
theorem dX5_paper_29 : decode cX5_paper 29 = .ok (.iload_n 1, 1) := by decide +kernel
theorem dX5_paper_30 : decode cX5_paper 30 = .ok (.iconst 1, 1) := by decide +kernel
theorem dX5_paper_31 : decode cX5_paper 31 = .ok (.if_icmp .eq 8, 3) := by decide +kernel
theorem dX5_paper_34 : decode cX5_paper 34 = .ok (.iload_n 1, 1) := by decide +kernel
theorem dX5_paper_35 : decode cX5_paper 35 = .ok (.iconst 3, 1) := by decide +kernel
theorem dX5_paper_36 : decode cX5_paper 36 = .ok (.if_icmp .ne 10, 3) := by decide +kernel
theorem dX5_paper_39 : decode cX5_paper 39 = .ok (.aload_n 0, 1) := by decide +kernel
theorem dX5_paper_40 : decode cX5_paper 40 = .ok (.ldc 89, 2) := by decide +kernel
theorem dX5_paper_42 : decode cX5_paper 42 = .ok (.invokevirtual 59, 3) := by decide +kernel
theorem dX5_paper_45 : decode cX5_paper 45 = .ok (.ireturn, 1) := by decide +kernel
theorem dX5_paper_46 : decode cX5_paper 46 = .ok (.iconst 0, 1) := by decide +kernel
theorem dX5_paper_47 : decode cX5_paper 47 = .ok (.istore_n 2, 1) := by decide +kernel
theorem dX5_paper_48 : decode cX5_paper 48 = .ok (.iload_n 1, 1) := by decide +kernel
theorem dX5_paper_49 : decode cX5_paper 49 = .ok (.tableswitch 84 0 4 #[35, 40, 45, 50, 55], 35) := by decide +kernel
theorem dX5_paper_84 : decode cX5_paper 84 = .ok (.aload_n 0, 1) := by decide +kernel
theorem dX5_paper_85 : decode cX5_paper 85 = .ok (.invokevirtual 90, 3) := by decide +kernel
theorem dX5_paper_88 : decode cX5_paper 88 = .ok (.ireturn, 1) := by decide +kernel
theorem dX5_paper_89 : decode cX5_paper 89 = .ok (.aload_n 0, 1) := by decide +kernel
theorem dX5_paper_90 : decode cX5_paper 90 = .ok (.invokevirtual 94, 3) := by decide +kernel
theorem dX5_paper_93 : decode cX5_paper 93 = .ok (.ireturn, 1) := by decide +kernel
theorem dX5_paper_94 : decode cX5_paper 94 = .ok (.aload_n 0, 1) := by decide +kernel
theorem dX5_paper_95 : decode cX5_paper 95 = .ok (.invokevirtual 97, 3) := by decide +kernel
theorem dX5_paper_98 : decode cX5_paper 98 = .ok (.ireturn, 1) := by decide +kernel
theorem dX5_paper_99 : decode cX5_paper 99 = .ok (.aload_n 0, 1) := by decide +kernel
theorem dX5_paper_100 : decode cX5_paper 100 = .ok (.invokevirtual 100, 3) := by decide +kernel
theorem dX5_paper_103 : decode cX5_paper 103 = .ok (.ireturn, 1) := by decide +kernel
theorem dX5_paper_104 : decode cX5_paper 104 = .ok (.iconst 0, 1) := by decide +kernel
theorem dX5_paper_105 : decode cX5_paper 105 = .ok (.istore_n 3, 1) := by decide +kernel
theorem dX5_paper_106 : decode cX5_paper 106 = .ok (.iload_n 3, 1) := by decide +kernel
theorem dX5_paper_107 : decode cX5_paper 107 = .ok (.aload_n 0, 1) := by decide +kernel
theorem dX5_paper_108 : decode cX5_paper 108 = .ok (.getfield 7, 3) := by decide +kernel
theorem dX5_paper_111 : decode cX5_paper 111 = .ok (.bipush 17, 2) := by decide +kernel
theorem dX5_paper_113 : decode cX5_paper 113 = .ok (.iaload, 1) := by decide +kernel
theorem dX5_paper_114 : decode cX5_paper 114 = .ok (.if_icmp .ge 17, 3) := by decide +kernel
theorem dX5_paper_117 : decode cX5_paper 117 = .ok (.iload_n 2, 1) := by decide +kernel
theorem dX5_paper_118 : decode cX5_paper 118 = .ok (.aload_n 0, 1) := by decide +kernel
theorem dX5_paper_119 : decode cX5_paper 119 = .ok (.iload_n 3, 1) := by decide +kernel
theorem dX5_paper_120 : decode cX5_paper 120 = .ok (.invokevirtual 84, 3) := by decide +kernel
theorem dX5_paper_123 : decode cX5_paper 123 = .ok (.iadd, 1) := by decide +kernel
theorem dX5_paper_124 : decode cX5_paper 124 = .ok (.istore_n 2, 1) := by decide +kernel
theorem dX5_paper_125 : decode cX5_paper 125 = .ok (.iinc 3 1, 3) := by decide +kernel
theorem dX5_paper_128 : decode cX5_paper 128 = .ok (.goto (-22), 3) := by decide +kernel
theorem dX5_paper_131 : decode cX5_paper 131 = .ok (.iload_n 2, 1) := by decide +kernel
theorem dX5_paper_132 : decode cX5_paper 132 = .ok (.ireturn, 1) := by decide +kernel
theorem dX5_paper_133 : decode cX5_paper 133 = .ok (.aload_n 0, 1) := by decide +kernel
theorem dX5_paper_134 : decode cX5_paper 134 = .ok (.invokevirtual 103, 3) := by decide +kernel
theorem dX5_paper_137 : decode cX5_paper 137 = .ok (.ireturn, 1) := by decide +kernel
theorem dX5_drawn_0 : decode cX5_drawn 0 = .ok (.aload_n 0, 1) := by decide +kernel
theorem dX5_drawn_1 : decode cX5_drawn 1 = .ok (.iload_n 1, 1) := by decide +kernel
theorem dX5_drawn_2 : decode cX5_drawn 2 = .ok (.invokevirtual 75, 3) := by decide +kernel
theorem dX5_drawn_5 : decode cX5_drawn 5 = .ok (.ifCond .eq 13, 3) := by decide +kernel
theorem dX5_drawn_8 : decode cX5_drawn 8 = .ok (.iload_n 2, 1) := by decide +kernel
theorem dX5_drawn_9 : decode cX5_drawn 9 = .ok (.i2l, 1) := by decide +kernel
theorem dX5_drawn_10 : decode cX5_drawn 10 = .ok (.lconst 0, 1) := by decide +kernel
theorem dX5_drawn_11 : decode cX5_drawn 11 = .ok (.lconst 1, 1) := by decide +kernel
theorem dX5_drawn_12 : decode cX5_drawn 12 = .ok (.invokestatic 43, 3) := by decide +kernel
theorem dX5_drawn_15 : decode cX5_drawn 15 = .ok (.ifCond .ne 10, 3) := by decide +kernel
theorem dX5_drawn_18 : decode cX5_drawn 18 = .ok (.aload_n 0, 1) := by decide +kernel
theorem dX5_drawn_19 : decode cX5_drawn 19 = .ok (.ldc 40, 2) := by decide +kernel
theorem dX5_drawn_21 : decode cX5_drawn 21 = .ok (.invokevirtual 59, 3) := by decide +kernel
theorem dX5_drawn_24 : decode cX5_drawn 24 = .ok (.ireturn, 1) := by decide +kernel
theorem dX5_drawn_25 : decode cX5_drawn 25 = .ok (.iconst 0, 1) := by decide +kernel
theorem dX5_drawn_26 : decode cX5_drawn 26 = .ok (.istore_n 3, 1) := by decide +kernel
theorem dX5_drawn_27 : decode cX5_drawn 27 = .ok (.iload_n 3, 1) := by decide +kernel
theorem dX5_drawn_28 : decode cX5_drawn 28 = .ok (.bipush 8, 2) := by decide +kernel
theorem dX5_drawn_30 : decode cX5_drawn 30 = .ok (.if_icmp .ge 62, 3) := by decide +kernel
theorem dX5_drawn_33 : decode cX5_drawn 33 = .ok (.aload_n 0, 1) := by decide +kernel
theorem dX5_drawn_34 : decode cX5_drawn 34 = .ok (.getfield 7, 3) := by decide +kernel
theorem dX5_drawn_37 : decode cX5_drawn 37 = .ok (.bipush 16, 2) := by decide +kernel
theorem dX5_drawn_39 : decode cX5_drawn 39 = .ok (.aload_n 0, 1) := by decide +kernel
theorem dX5_drawn_40 : decode cX5_drawn 40 = .ok (.getfield 7, 3) := by decide +kernel
theorem dX5_drawn_43 : decode cX5_drawn 43 = .ok (.bipush 16, 2) := by decide +kernel
theorem dX5_drawn_45 : decode cX5_drawn 45 = .ok (.iaload, 1) := by decide +kernel
theorem dX5_drawn_46 : decode cX5_drawn 46 = .ok (.ldc 106, 2) := by decide +kernel
theorem dX5_drawn_48 : decode cX5_drawn 48 = .ok (.imul, 1) := by decide +kernel
theorem dX5_drawn_49 : decode cX5_drawn 49 = .ok (.sipush 12345, 3) := by decide +kernel
theorem dX5_drawn_52 : decode cX5_drawn 52 = .ok (.iadd, 1) := by decide +kernel
theorem dX5_drawn_53 : decode cX5_drawn 53 = .ok (.iastore, 1) := by decide +kernel
theorem dX5_drawn_54 : decode cX5_drawn 54 = .ok (.aload_n 0, 1) := by decide +kernel
theorem dX5_drawn_55 : decode cX5_drawn 55 = .ok (.getfield 7, 3) := by decide +kernel
theorem dX5_drawn_58 : decode cX5_drawn 58 = .ok (.iload_n 1, 1) := by decide +kernel
theorem dX5_drawn_59 : decode cX5_drawn 59 = .ok (.iload_n 2, 1) := by decide +kernel
theorem dX5_drawn_60 : decode cX5_drawn 60 = .ok (.iload_n 3, 1) := by decide +kernel
theorem dX5_drawn_61 : decode cX5_drawn 61 = .ok (.invokestatic 49, 3) := by decide +kernel
theorem dX5_drawn_64 : decode cX5_drawn 64 = .ok (.aload_n 0, 1) := by decide +kernel
theorem dX5_drawn_65 : decode cX5_drawn 65 = .ok (.getfield 7, 3) := by decide +kernel
theorem dX5_drawn_68 : decode cX5_drawn 68 = .ok (.bipush 16, 2) := by decide +kernel
theorem dX5_drawn_70 : decode cX5_drawn 70 = .ok (.iaload, 1) := by decide +kernel
theorem dX5_drawn_71 : decode cX5_drawn 71 = .ok (.bipush 8, 2) := by decide +kernel
theorem dX5_drawn_73 : decode cX5_drawn 73 = .ok (.iushr, 1) := by decide +kernel
theorem dX5_drawn_74 : decode cX5_drawn 74 = .ok (.aload_n 0, 1) := by decide +kernel
theorem dX5_drawn_75 : decode cX5_drawn 75 = .ok (.getfield 7, 3) := by decide +kernel
theorem dX5_drawn_78 : decode cX5_drawn 78 = .ok (.iconst 0, 1) := by decide +kernel
theorem dX5_drawn_79 : decode cX5_drawn 79 = .ok (.iload_n 3, 1) := by decide +kernel
theorem dX5_drawn_80 : decode cX5_drawn 80 = .ok (.iadd, 1) := by decide +kernel
theorem dX5_drawn_81 : decode cX5_drawn 81 = .ok (.iaload, 1) := by decide +kernel
theorem dX5_drawn_82 : decode cX5_drawn 82 = .ok (.iconst 1, 1) := by decide +kernel
theorem dX5_drawn_83 : decode cX5_drawn 83 = .ok (.iadd, 1) := by decide +kernel
theorem dX5_drawn_84 : decode cX5_drawn 84 = .ok (.irem, 1) := by decide +kernel
theorem dX5_drawn_85 : decode cX5_drawn 85 = .ok (.iastore, 1) := by decide +kernel
theorem dX5_drawn_86 : decode cX5_drawn 86 = .ok (.iinc 3 1, 3) := by decide +kernel
theorem dX5_drawn_89 : decode cX5_drawn 89 = .ok (.goto (-62), 3) := by decide +kernel
theorem dX5_drawn_92 : decode cX5_drawn 92 = .ok (.aload_n 0, 1) := by decide +kernel
theorem dX5_drawn_93 : decode cX5_drawn 93 = .ok (.iload_n 1, 1) := by decide +kernel
theorem dX5_drawn_94 : decode cX5_drawn 94 = .ok (.invokevirtual 84, 3) := by decide +kernel
theorem dX5_drawn_97 : decode cX5_drawn 97 = .ok (.ireturn, 1) := by decide +kernel
theorem dX5_drop_0 : decode cX5_drop 0 = .ok (.aload_n 0, 1) := by decide +kernel
theorem dX5_drop_1 : decode cX5_drop 1 = .ok (.getfield 7, 3) := by decide +kernel
theorem dX5_drop_4 : decode cX5_drop 4 = .ok (.bipush 17, 2) := by decide +kernel
theorem dX5_drop_6 : decode cX5_drop 6 = .ok (.iaload, 1) := by decide +kernel
theorem dX5_drop_7 : decode cX5_drop 7 = .ok (.ifCond .ne 10, 3) := by decide +kernel
theorem dX5_drop_10 : decode cX5_drop 10 = .ok (.aload_n 0, 1) := by decide +kernel
theorem dX5_drop_11 : decode cX5_drop 11 = .ok (.ldc 89, 2) := by decide +kernel
theorem dX5_drop_13 : decode cX5_drop 13 = .ok (.invokevirtual 59, 3) := by decide +kernel
theorem dX5_drop_16 : decode cX5_drop 16 = .ok (.ireturn, 1) := by decide +kernel
theorem dX5_drop_17 : decode cX5_drop 17 = .ok (.aload_n 0, 1) := by decide +kernel
theorem dX5_drop_18 : decode cX5_drop 18 = .ok (.getfield 7, 3) := by decide +kernel
theorem dX5_drop_21 : decode cX5_drop 21 = .ok (.bipush 17, 2) := by decide +kernel
theorem dX5_drop_23 : decode cX5_drop 23 = .ok (.dup2, 1) := by decide +kernel
theorem dX5_drop_24 : decode cX5_drop 24 = .ok (.iaload, 1) := by decide +kernel
theorem dX5_drop_25 : decode cX5_drop 25 = .ok (.iconst 1, 1) := by decide +kernel
theorem dX5_drop_26 : decode cX5_drop 26 = .ok (.isub, 1) := by decide +kernel
theorem dX5_drop_27 : decode cX5_drop 27 = .ok (.iastore, 1) := by decide +kernel
theorem dX5_drop_28 : decode cX5_drop 28 = .ok (.aload_n 0, 1) := by decide +kernel
theorem dX5_drop_29 : decode cX5_drop 29 = .ok (.getfield 7, 3) := by decide +kernel
theorem dX5_drop_32 : decode cX5_drop 32 = .ok (.bipush 17, 2) := by decide +kernel
theorem dX5_drop_34 : decode cX5_drop 34 = .ok (.iaload, 1) := by decide +kernel
theorem dX5_drop_35 : decode cX5_drop 35 = .ok (.ireturn, 1) := by decide +kernel
theorem dX5_newCurve_0 : decode cX5_newCurve 0 = .ok (.aload_n 0, 1) := by decide +kernel
theorem dX5_newCurve_1 : decode cX5_newCurve 1 = .ok (.getfield 7, 3) := by decide +kernel
theorem dX5_newCurve_4 : decode cX5_newCurve 4 = .ok (.sipush 223, 3) := by decide +kernel
theorem dX5_newCurve_7 : decode cX5_newCurve 7 = .ok (.iconst 2, 1) := by decide +kernel
theorem dX5_newCurve_8 : decode cX5_newCurve 8 = .ok (.aload_n 0, 1) := by decide +kernel
theorem dX5_newCurve_9 : decode cX5_newCurve 9 = .ok (.getfield 7, 3) := by decide +kernel
theorem dX5_newCurve_12 : decode cX5_newCurve 12 = .ok (.bipush 18, 2) := by decide +kernel
theorem dX5_newCurve_14 : decode cX5_newCurve 14 = .ok (.iaload, 1) := by decide +kernel
theorem dX5_newCurve_15 : decode cX5_newCurve 15 = .ok (.imul, 1) := by decide +kernel
theorem dX5_newCurve_16 : decode cX5_newCurve 16 = .ok (.iadd, 1) := by decide +kernel
theorem dX5_newCurve_17 : decode cX5_newCurve 17 = .ok (.iload_n 1, 1) := by decide +kernel
theorem dX5_newCurve_18 : decode cX5_newCurve 18 = .ok (.iastore, 1) := by decide +kernel
theorem dX5_newCurve_19 : decode cX5_newCurve 19 = .ok (.aload_n 0, 1) := by decide +kernel
theorem dX5_newCurve_20 : decode cX5_newCurve 20 = .ok (.getfield 7, 3) := by decide +kernel
theorem dX5_newCurve_23 : decode cX5_newCurve 23 = .ok (.sipush 223, 3) := by decide +kernel
theorem dX5_newCurve_26 : decode cX5_newCurve 26 = .ok (.iconst 2, 1) := by decide +kernel
theorem dX5_newCurve_27 : decode cX5_newCurve 27 = .ok (.aload_n 0, 1) := by decide +kernel
theorem dX5_newCurve_28 : decode cX5_newCurve 28 = .ok (.getfield 7, 3) := by decide +kernel
theorem dX5_newCurve_31 : decode cX5_newCurve 31 = .ok (.bipush 18, 2) := by decide +kernel
theorem dX5_newCurve_33 : decode cX5_newCurve 33 = .ok (.iaload, 1) := by decide +kernel
theorem dX5_newCurve_34 : decode cX5_newCurve 34 = .ok (.imul, 1) := by decide +kernel
theorem dX5_newCurve_35 : decode cX5_newCurve 35 = .ok (.iadd, 1) := by decide +kernel
theorem dX5_newCurve_36 : decode cX5_newCurve 36 = .ok (.iconst 1, 1) := by decide +kernel
theorem dX5_newCurve_37 : decode cX5_newCurve 37 = .ok (.iadd, 1) := by decide +kernel
theorem dX5_newCurve_38 : decode cX5_newCurve 38 = .ok (.iload_n 2, 1) := by decide +kernel
theorem dX5_newCurve_39 : decode cX5_newCurve 39 = .ok (.iastore, 1) := by decide +kernel
theorem dX5_newCurve_40 : decode cX5_newCurve 40 = .ok (.aload_n 0, 1) := by decide +kernel
theorem dX5_newCurve_41 : decode cX5_newCurve 41 = .ok (.getfield 7, 3) := by decide +kernel
theorem dX5_newCurve_44 : decode cX5_newCurve 44 = .ok (.bipush 18, 2) := by decide +kernel
theorem dX5_newCurve_46 : decode cX5_newCurve 46 = .ok (.dup2, 1) := by decide +kernel
theorem dX5_newCurve_47 : decode cX5_newCurve 47 = .ok (.iaload, 1) := by decide +kernel
theorem dX5_newCurve_48 : decode cX5_newCurve 48 = .ok (.iconst 1, 1) := by decide +kernel
theorem dX5_newCurve_49 : decode cX5_newCurve 49 = .ok (.iadd, 1) := by decide +kernel
theorem dX5_newCurve_50 : decode cX5_newCurve 50 = .ok (.iastore, 1) := by decide +kernel
theorem dX5_newCurve_51 : decode cX5_newCurve 51 = .ok (.aload_n 0, 1) := by decide +kernel
theorem dX5_newCurve_52 : decode cX5_newCurve 52 = .ok (.getfield 7, 3) := by decide +kernel
theorem dX5_newCurve_55 : decode cX5_newCurve 55 = .ok (.bipush 18, 2) := by decide +kernel
theorem dX5_newCurve_57 : decode cX5_newCurve 57 = .ok (.iaload, 1) := by decide +kernel
theorem dX5_newCurve_58 : decode cX5_newCurve 58 = .ok (.iconst 1, 1) := by decide +kernel
theorem dX5_newCurve_59 : decode cX5_newCurve 59 = .ok (.isub, 1) := by decide +kernel
theorem dX5_newCurve_60 : decode cX5_newCurve 60 = .ok (.ireturn, 1) := by decide +kernel
theorem dX5_curve_0 : decode cX5_curve 0 = .ok (.iload_n 1, 1) := by decide +kernel
theorem dX5_curve_1 : decode cX5_curve 1 = .ok (.i2l, 1) := by decide +kernel
theorem dX5_curve_2 : decode cX5_curve 2 = .ok (.lconst 0, 1) := by decide +kernel
theorem dX5_curve_3 : decode cX5_curve 3 = .ok (.ldc2_w 107, 3) := by decide +kernel
theorem dX5_curve_6 : decode cX5_curve 6 = .ok (.invokestatic 43, 3) := by decide +kernel
theorem dX5_curve_9 : decode cX5_curve 9 = .ok (.ifCond .eq 15, 3) := by decide +kernel
theorem dX5_curve_12 : decode cX5_curve 12 = .ok (.iload_n 2, 1) := by decide +kernel
theorem dX5_curve_13 : decode cX5_curve 13 = .ok (.i2l, 1) := by decide +kernel
theorem dX5_curve_14 : decode cX5_curve 14 = .ok (.lconst 0, 1) := by decide +kernel
theorem dX5_curve_15 : decode cX5_curve 15 = .ok (.ldc2_w 109, 3) := by decide +kernel
theorem dX5_curve_18 : decode cX5_curve 18 = .ok (.invokestatic 43, 3) := by decide +kernel
theorem dX5_curve_21 : decode cX5_curve 21 = .ok (.ifCond .ne 10, 3) := by decide +kernel
theorem dX5_curve_24 : decode cX5_curve 24 = .ok (.aload_n 0, 1) := by decide +kernel
theorem dX5_curve_25 : decode cX5_curve 25 = .ok (.ldc 40, 2) := by decide +kernel
theorem dX5_curve_27 : decode cX5_curve 27 = .ok (.invokevirtual 59, 3) := by decide +kernel
theorem dX5_curve_30 : decode cX5_curve 30 = .ok (.ireturn, 1) := by decide +kernel
theorem dX5_curve_31 : decode cX5_curve 31 = .ok (.aload_n 0, 1) := by decide +kernel
theorem dX5_curve_32 : decode cX5_curve 32 = .ok (.getfield 7, 3) := by decide +kernel
theorem dX5_curve_35 : decode cX5_curve 35 = .ok (.bipush 18, 2) := by decide +kernel
theorem dX5_curve_37 : decode cX5_curve 37 = .ok (.iaload, 1) := by decide +kernel
theorem dX5_curve_38 : decode cX5_curve 38 = .ok (.bipush 6, 2) := by decide +kernel
theorem dX5_curve_40 : decode cX5_curve 40 = .ok (.if_icmp .ne 12, 3) := by decide +kernel
theorem dX5_curve_43 : decode cX5_curve 43 = .ok (.aload_n 0, 1) := by decide +kernel
theorem dX5_curve_44 : decode cX5_curve 44 = .ok (.ldc 71, 2) := by decide +kernel
theorem dX5_curve_46 : decode cX5_curve 46 = .ok (.invokevirtual 59, 3) := by decide +kernel
theorem dX5_curve_49 : decode cX5_curve 49 = .ok (.goto 9, 3) := by decide +kernel
theorem dX5_curve_52 : decode cX5_curve 52 = .ok (.aload_n 0, 1) := by decide +kernel
theorem dX5_curve_53 : decode cX5_curve 53 = .ok (.iload_n 1, 1) := by decide +kernel
theorem dX5_curve_54 : decode cX5_curve 54 = .ok (.iload_n 2, 1) := by decide +kernel
theorem dX5_curve_55 : decode cX5_curve 55 = .ok (.invokevirtual 111, 3) := by decide +kernel
theorem dX5_curve_58 : decode cX5_curve 58 = .ok (.ireturn, 1) := by decide +kernel
theorem dX5_curveOf_0 : decode cX5_curveOf 0 = .ok (.aload_n 0, 1) := by decide +kernel
theorem dX5_curveOf_1 : decode cX5_curveOf 1 = .ok (.iload_n 1, 1) := by decide +kernel
theorem dX5_curveOf_2 : decode cX5_curveOf 2 = .ok (.invokevirtual 114, 3) := by decide +kernel
theorem dX5_curveOf_5 : decode cX5_curveOf 5 = .ok (.ifCond .eq 30, 3) := by decide +kernel
theorem dX5_curveOf_8 : decode cX5_curveOf 8 = .ok (.iload_n 2, 1) := by decide +kernel
theorem dX5_curveOf_9 : decode cX5_curveOf 9 = .ok (.i2l, 1) := by decide +kernel
theorem dX5_curveOf_10 : decode cX5_curveOf 10 = .ok (.lconst 0, 1) := by decide +kernel
theorem dX5_curveOf_11 : decode cX5_curveOf 11 = .ok (.lconst 1, 1) := by decide +kernel
theorem dX5_curveOf_12 : decode cX5_curveOf 12 = .ok (.invokestatic 43, 3) := by decide +kernel
theorem dX5_curveOf_15 : decode cX5_curveOf 15 = .ok (.ifCond .eq 20, 3) := by decide +kernel
theorem dX5_curveOf_18 : decode cX5_curveOf 18 = .ok (.aload_n 0, 1) := by decide +kernel
theorem dX5_curveOf_19 : decode cX5_curveOf 19 = .ok (.getfield 7, 3) := by decide +kernel
theorem dX5_curveOf_22 : decode cX5_curveOf 22 = .ok (.sipush 223, 3) := by decide +kernel
theorem dX5_curveOf_25 : decode cX5_curveOf 25 = .ok (.iconst 2, 1) := by decide +kernel
theorem dX5_curveOf_26 : decode cX5_curveOf 26 = .ok (.iload_n 1, 1) := by decide +kernel
theorem dX5_curveOf_27 : decode cX5_curveOf 27 = .ok (.imul, 1) := by decide +kernel
theorem dX5_curveOf_28 : decode cX5_curveOf 28 = .ok (.iadd, 1) := by decide +kernel
theorem dX5_curveOf_29 : decode cX5_curveOf 29 = .ok (.iload_n 2, 1) := by decide +kernel
theorem dX5_curveOf_30 : decode cX5_curveOf 30 = .ok (.iadd, 1) := by decide +kernel
theorem dX5_curveOf_31 : decode cX5_curveOf 31 = .ok (.iaload, 1) := by decide +kernel
theorem dX5_curveOf_32 : decode cX5_curveOf 32 = .ok (.goto 9, 3) := by decide +kernel
theorem dX5_curveOf_35 : decode cX5_curveOf 35 = .ok (.aload_n 0, 1) := by decide +kernel
theorem dX5_curveOf_36 : decode cX5_curveOf 36 = .ok (.ldc 40, 2) := by decide +kernel
theorem dX5_curveOf_38 : decode cX5_curveOf 38 = .ok (.invokevirtual 59, 3) := by decide +kernel
theorem dX5_curveOf_41 : decode cX5_curveOf 41 = .ok (.ireturn, 1) := by decide +kernel
theorem dX5_turn_0 : decode cX5_turn 0 = .ok (.aload_n 0, 1) := by decide +kernel
theorem dX5_turn_1 : decode cX5_turn 1 = .ok (.iload_n 1, 1) := by decide +kernel
theorem dX5_turn_2 : decode cX5_turn 2 = .ok (.invokevirtual 114, 3) := by decide +kernel
theorem dX5_turn_5 : decode cX5_turn 5 = .ok (.ifCond .eq 15, 3) := by decide +kernel
theorem dX5_turn_8 : decode cX5_turn 8 = .ok (.iload_n 2, 1) := by decide +kernel
theorem dX5_turn_9 : decode cX5_turn 9 = .ok (.i2l, 1) := by decide +kernel
theorem dX5_turn_10 : decode cX5_turn 10 = .ok (.lconst 0, 1) := by decide +kernel
theorem dX5_turn_11 : decode cX5_turn 11 = .ok (.ldc2_w 107, 3) := by decide +kernel
theorem dX5_turn_14 : decode cX5_turn 14 = .ok (.invokestatic 43, 3) := by decide +kernel
theorem dX5_turn_17 : decode cX5_turn 17 = .ok (.ifCond .ne 10, 3) := by decide +kernel
theorem dX5_turn_20 : decode cX5_turn 20 = .ok (.aload_n 0, 1) := by decide +kernel
theorem dX5_turn_21 : decode cX5_turn 21 = .ok (.ldc 40, 2) := by decide +kernel
theorem dX5_turn_23 : decode cX5_turn 23 = .ok (.invokevirtual 59, 3) := by decide +kernel
theorem dX5_turn_26 : decode cX5_turn 26 = .ok (.ireturn, 1) := by decide +kernel
theorem dX5_turn_27 : decode cX5_turn 27 = .ok (.aload_n 0, 1) := by decide +kernel
theorem dX5_turn_28 : decode cX5_turn 28 = .ok (.getfield 7, 3) := by decide +kernel
theorem dX5_turn_31 : decode cX5_turn 31 = .ok (.sipush 223, 3) := by decide +kernel
theorem dX5_turn_34 : decode cX5_turn 34 = .ok (.iconst 2, 1) := by decide +kernel
theorem dX5_turn_35 : decode cX5_turn 35 = .ok (.iload_n 1, 1) := by decide +kernel
theorem dX5_turn_36 : decode cX5_turn 36 = .ok (.imul, 1) := by decide +kernel
theorem dX5_turn_37 : decode cX5_turn 37 = .ok (.iadd, 1) := by decide +kernel
theorem dX5_turn_38 : decode cX5_turn 38 = .ok (.iaload, 1) := by decide +kernel
theorem dX5_turn_39 : decode cX5_turn 39 = .ok (.istore_n 3, 1) := by decide +kernel
theorem dX5_turn_40 : decode cX5_turn 40 = .ok (.aload_n 0, 1) := by decide +kernel
theorem dX5_turn_41 : decode cX5_turn 41 = .ok (.getfield 7, 3) := by decide +kernel
theorem dX5_turn_44 : decode cX5_turn 44 = .ok (.sipush 223, 3) := by decide +kernel
theorem dX5_turn_47 : decode cX5_turn 47 = .ok (.iconst 2, 1) := by decide +kernel
theorem dX5_turn_48 : decode cX5_turn 48 = .ok (.iload_n 1, 1) := by decide +kernel
theorem dX5_turn_49 : decode cX5_turn 49 = .ok (.imul, 1) := by decide +kernel
theorem dX5_turn_50 : decode cX5_turn 50 = .ok (.iadd, 1) := by decide +kernel
theorem dX5_turn_51 : decode cX5_turn 51 = .ok (.iload_n 2, 1) := by decide +kernel
theorem dX5_turn_52 : decode cX5_turn 52 = .ok (.iastore, 1) := by decide +kernel
theorem dX5_turn_53 : decode cX5_turn 53 = .ok (.iload_n 3, 1) := by decide +kernel
theorem dX5_turn_54 : decode cX5_turn 54 = .ok (.ireturn, 1) := by decide +kernel
theorem dX5_by_0 : decode cX5_by 0 = .ok (.aload_n 0, 1) := by decide +kernel
theorem dX5_by_1 : decode cX5_by 1 = .ok (.iload_n 1, 1) := by decide +kernel
theorem dX5_by_2 : decode cX5_by 2 = .ok (.invokevirtual 114, 3) := by decide +kernel
theorem dX5_by_5 : decode cX5_by 5 = .ok (.ifCond .eq 15, 3) := by decide +kernel
theorem dX5_by_8 : decode cX5_by 8 = .ok (.iload_n 2, 1) := by decide +kernel
theorem dX5_by_9 : decode cX5_by 9 = .ok (.i2l, 1) := by decide +kernel
theorem dX5_by_10 : decode cX5_by 10 = .ok (.lconst 0, 1) := by decide +kernel
theorem dX5_by_11 : decode cX5_by 11 = .ok (.ldc2_w 109, 3) := by decide +kernel
theorem dX5_by_14 : decode cX5_by 14 = .ok (.invokestatic 43, 3) := by decide +kernel
theorem dX5_by_17 : decode cX5_by 17 = .ok (.ifCond .ne 10, 3) := by decide +kernel
theorem dX5_by_20 : decode cX5_by 20 = .ok (.aload_n 0, 1) := by decide +kernel
theorem dX5_by_21 : decode cX5_by 21 = .ok (.ldc 40, 2) := by decide +kernel
theorem dX5_by_23 : decode cX5_by 23 = .ok (.invokevirtual 59, 3) := by decide +kernel
theorem dX5_by_26 : decode cX5_by 26 = .ok (.ireturn, 1) := by decide +kernel
theorem dX5_by_27 : decode cX5_by 27 = .ok (.aload_n 0, 1) := by decide +kernel
theorem dX5_by_28 : decode cX5_by 28 = .ok (.getfield 7, 3) := by decide +kernel
theorem dX5_by_31 : decode cX5_by 31 = .ok (.sipush 223, 3) := by decide +kernel
theorem dX5_by_34 : decode cX5_by 34 = .ok (.iconst 2, 1) := by decide +kernel
theorem dX5_by_35 : decode cX5_by 35 = .ok (.iload_n 1, 1) := by decide +kernel
theorem dX5_by_36 : decode cX5_by 36 = .ok (.imul, 1) := by decide +kernel
theorem dX5_by_37 : decode cX5_by 37 = .ok (.iadd, 1) := by decide +kernel
theorem dX5_by_38 : decode cX5_by 38 = .ok (.iconst 1, 1) := by decide +kernel
theorem dX5_by_39 : decode cX5_by 39 = .ok (.iadd, 1) := by decide +kernel
theorem dX5_by_40 : decode cX5_by 40 = .ok (.iaload, 1) := by decide +kernel
theorem dX5_by_41 : decode cX5_by 41 = .ok (.istore_n 3, 1) := by decide +kernel
theorem dX5_by_42 : decode cX5_by 42 = .ok (.aload_n 0, 1) := by decide +kernel
theorem dX5_by_43 : decode cX5_by 43 = .ok (.getfield 7, 3) := by decide +kernel
theorem dX5_by_46 : decode cX5_by 46 = .ok (.sipush 223, 3) := by decide +kernel
theorem dX5_by_49 : decode cX5_by 49 = .ok (.iconst 2, 1) := by decide +kernel
theorem dX5_by_50 : decode cX5_by 50 = .ok (.iload_n 1, 1) := by decide +kernel
theorem dX5_by_51 : decode cX5_by 51 = .ok (.imul, 1) := by decide +kernel
theorem dX5_by_52 : decode cX5_by 52 = .ok (.iadd, 1) := by decide +kernel
theorem dX5_by_53 : decode cX5_by 53 = .ok (.iconst 1, 1) := by decide +kernel
theorem dX5_by_54 : decode cX5_by 54 = .ok (.iadd, 1) := by decide +kernel
theorem dX5_by_55 : decode cX5_by 55 = .ok (.iload_n 2, 1) := by decide +kernel
theorem dX5_by_56 : decode cX5_by 56 = .ok (.iastore, 1) := by decide +kernel
theorem dX5_by_57 : decode cX5_by 57 = .ok (.iload_n 3, 1) := by decide +kernel
theorem dX5_by_58 : decode cX5_by 58 = .ok (.ireturn, 1) := by decide +kernel
theorem dX5_stretched_0 : decode cX5_stretched 0 = .ok (.aload_n 0, 1) := by decide +kernel
theorem dX5_stretched_1 : decode cX5_stretched 1 = .ok (.invokevirtual 94, 3) := by decide +kernel
theorem dX5_stretched_4 : decode cX5_stretched 4 = .ok (.istore_n 2, 1) := by decide +kernel
theorem dX5_stretched_5 : decode cX5_stretched 5 = .ok (.iload_n 2, 1) := by decide +kernel
theorem dX5_stretched_6 : decode cX5_stretched 6 = .ok (.ifCond .ne 7, 3) := by decide +kernel
theorem dX5_stretched_9 : decode cX5_stretched 9 = .ok (.iconst 0, 1) := by decide +kernel
theorem dX5_stretched_10 : decode cX5_stretched 10 = .ok (.goto 13, 3) := by decide +kernel
theorem dX5_stretched_13 : decode cX5_stretched 13 = .ok (.bipush 100, 2) := by decide +kernel
theorem dX5_stretched_15 : decode cX5_stretched 15 = .ok (.aload_n 0, 1) := by decide +kernel
theorem dX5_stretched_16 : decode cX5_stretched 16 = .ok (.iload_n 1, 1) := by decide +kernel
theorem dX5_stretched_17 : decode cX5_stretched 17 = .ok (.invokevirtual 84, 3) := by decide +kernel
theorem dX5_stretched_20 : decode cX5_stretched 20 = .ok (.imul, 1) := by decide +kernel
theorem dX5_stretched_21 : decode cX5_stretched 21 = .ok (.iload_n 2, 1) := by decide +kernel
theorem dX5_stretched_22 : decode cX5_stretched 22 = .ok (.idiv, 1) := by decide +kernel
theorem dX5_stretched_23 : decode cX5_stretched 23 = .ok (.ireturn, 1) := by decide +kernel
theorem dX5_root_0 : decode cX5_root 0 = .ok (.iconst 0, 1) := by decide +kernel
theorem dX5_root_1 : decode cX5_root 1 = .ok (.istore_n 1, 1) := by decide +kernel
theorem dX5_root_2 : decode cX5_root 2 = .ok (.iload_n 1, 1) := by decide +kernel
theorem dX5_root_3 : decode cX5_root 3 = .ok (.iconst 1, 1) := by decide +kernel
theorem dX5_root_4 : decode cX5_root 4 = .ok (.iadd, 1) := by decide +kernel
theorem dX5_root_5 : decode cX5_root 5 = .ok (.iload_n 1, 1) := by decide +kernel
theorem dX5_root_6 : decode cX5_root 6 = .ok (.iconst 1, 1) := by decide +kernel
theorem dX5_root_7 : decode cX5_root 7 = .ok (.iadd, 1) := by decide +kernel
theorem dX5_root_8 : decode cX5_root 8 = .ok (.imul, 1) := by decide +kernel
theorem dX5_root_9 : decode cX5_root 9 = .ok (.iload_n 0, 1) := by decide +kernel
theorem dX5_root_10 : decode cX5_root 10 = .ok (.if_icmp .gt 9, 3) := by decide +kernel
theorem dX5_root_13 : decode cX5_root 13 = .ok (.iinc 1 1, 3) := by decide +kernel
theorem dX5_root_16 : decode cX5_root 16 = .ok (.goto (-14), 3) := by decide +kernel
theorem dX5_root_19 : decode cX5_root 19 = .ok (.iload_n 1, 1) := by decide +kernel
theorem dX5_root_20 : decode cX5_root 20 = .ok (.ireturn, 1) := by decide +kernel
theorem dX5_shared_0 : decode cX5_shared 0 = .ok (.iconst 1, 1) := by decide +kernel
theorem dX5_shared_1 : decode cX5_shared 1 = .ok (.istore_n 3, 1) := by decide +kernel
theorem dX5_shared_2 : decode cX5_shared 2 = .ok (.aload_n 0, 1) := by decide +kernel
theorem dX5_shared_3 : decode cX5_shared 3 = .ok (.iload_n 1, 1) := by decide +kernel
theorem dX5_shared_4 : decode cX5_shared 4 = .ok (.invokevirtual 84, 3) := by decide +kernel
theorem dX5_shared_7 : decode cX5_shared 7 = .ok (.istore 4, 2) := by decide +kernel
theorem dX5_shared_9 : decode cX5_shared 9 = .ok (.iconst 0, 1) := by decide +kernel
theorem dX5_shared_10 : decode cX5_shared 10 = .ok (.istore 5, 2) := by decide +kernel
theorem dX5_shared_12 : decode cX5_shared 12 = .ok (.iload 5, 2) := by decide +kernel
theorem dX5_shared_14 : decode cX5_shared 14 = .ok (.aload_n 0, 1) := by decide +kernel
theorem dX5_shared_15 : decode cX5_shared 15 = .ok (.getfield 7, 3) := by decide +kernel
theorem dX5_shared_18 : decode cX5_shared 18 = .ok (.bipush 17, 2) := by decide +kernel
theorem dX5_shared_20 : decode cX5_shared 20 = .ok (.iaload, 1) := by decide +kernel
theorem dX5_shared_21 : decode cX5_shared 21 = .ok (.if_icmp .ge 28, 3) := by decide +kernel
theorem dX5_shared_24 : decode cX5_shared 24 = .ok (.iload_n 3, 1) := by decide +kernel
theorem dX5_shared_25 : decode cX5_shared 25 = .ok (.aload_n 0, 1) := by decide +kernel
theorem dX5_shared_26 : decode cX5_shared 26 = .ok (.iload 5, 2) := by decide +kernel
theorem dX5_shared_28 : decode cX5_shared 28 = .ok (.invokevirtual 84, 3) := by decide +kernel
theorem dX5_shared_31 : decode cX5_shared 31 = .ok (.iload 4, 2) := by decide +kernel
theorem dX5_shared_33 : decode cX5_shared 33 = .ok (.if_icmp .le 7, 3) := by decide +kernel
theorem dX5_shared_36 : decode cX5_shared 36 = .ok (.iconst 1, 1) := by decide +kernel
theorem dX5_shared_37 : decode cX5_shared 37 = .ok (.goto 4, 3) := by decide +kernel
theorem dX5_shared_40 : decode cX5_shared 40 = .ok (.iconst 0, 1) := by decide +kernel
theorem dX5_shared_41 : decode cX5_shared 41 = .ok (.iadd, 1) := by decide +kernel
theorem dX5_shared_42 : decode cX5_shared 42 = .ok (.istore_n 3, 1) := by decide +kernel
theorem dX5_shared_43 : decode cX5_shared 43 = .ok (.iinc 5 1, 3) := by decide +kernel
theorem dX5_shared_46 : decode cX5_shared 46 = .ok (.goto (-34), 3) := by decide +kernel
theorem dX5_shared_49 : decode cX5_shared 49 = .ok (.bipush 100, 2) := by decide +kernel
theorem dX5_shared_51 : decode cX5_shared 51 = .ok (.iload_n 3, 1) := by decide +kernel
theorem dX5_shared_52 : decode cX5_shared 52 = .ok (.imul, 1) := by decide +kernel
theorem dX5_shared_53 : decode cX5_shared 53 = .ok (.iload_n 2, 1) := by decide +kernel
theorem dX5_shared_54 : decode cX5_shared 54 = .ok (.aload_n 0, 1) := by decide +kernel
theorem dX5_shared_55 : decode cX5_shared 55 = .ok (.getfield 7, 3) := by decide +kernel
theorem dX5_shared_58 : decode cX5_shared 58 = .ok (.bipush 17, 2) := by decide +kernel
theorem dX5_shared_60 : decode cX5_shared 60 = .ok (.iaload, 1) := by decide +kernel
theorem dX5_shared_61 : decode cX5_shared 61 = .ok (.imul, 1) := by decide +kernel
theorem dX5_shared_62 : decode cX5_shared 62 = .ok (.if_icmp .gt 8, 3) := by decide +kernel
theorem dX5_shared_65 : decode cX5_shared 65 = .ok (.bipush 100, 2) := by decide +kernel
theorem dX5_shared_67 : decode cX5_shared 67 = .ok (.goto 31, 3) := by decide +kernel
theorem dX5_shared_70 : decode cX5_shared 70 = .ok (.bipush 100, 2) := by decide +kernel
theorem dX5_shared_72 : decode cX5_shared 72 = .ok (.iload_n 3, 1) := by decide +kernel
theorem dX5_shared_73 : decode cX5_shared 73 = .ok (.imul, 1) := by decide +kernel
theorem dX5_shared_74 : decode cX5_shared 74 = .ok (.iload_n 2, 1) := by decide +kernel
theorem dX5_shared_75 : decode cX5_shared 75 = .ok (.bipush 100, 2) := by decide +kernel
theorem dX5_shared_77 : decode cX5_shared 77 = .ok (.iadd, 1) := by decide +kernel
theorem dX5_shared_78 : decode cX5_shared 78 = .ok (.iconst 2, 1) := by decide +kernel
theorem dX5_shared_79 : decode cX5_shared 79 = .ok (.idiv, 1) := by decide +kernel
theorem dX5_shared_80 : decode cX5_shared 80 = .ok (.aload_n 0, 1) := by decide +kernel
theorem dX5_shared_81 : decode cX5_shared 81 = .ok (.getfield 7, 3) := by decide +kernel
theorem dX5_shared_84 : decode cX5_shared 84 = .ok (.bipush 17, 2) := by decide +kernel
theorem dX5_shared_86 : decode cX5_shared 86 = .ok (.iaload, 1) := by decide +kernel
theorem dX5_shared_87 : decode cX5_shared 87 = .ok (.imul, 1) := by decide +kernel
theorem dX5_shared_88 : decode cX5_shared 88 = .ok (.if_icmp .gt 8, 3) := by decide +kernel
theorem dX5_shared_91 : decode cX5_shared 91 = .ok (.bipush 60, 2) := by decide +kernel
theorem dX5_shared_93 : decode cX5_shared 93 = .ok (.goto 5, 3) := by decide +kernel
theorem dX5_shared_96 : decode cX5_shared 96 = .ok (.bipush 30, 2) := by decide +kernel
theorem dX5_shared_98 : decode cX5_shared 98 = .ok (.ireturn, 1) := by decide +kernel
theorem dX5_linked_0 : decode cX5_linked 0 = .ok (.aload_n 0, 1) := by decide +kernel
theorem dX5_linked_1 : decode cX5_linked 1 = .ok (.iload_n 1, 1) := by decide +kernel
theorem dX5_linked_2 : decode cX5_linked 2 = .ok (.invokevirtual 84, 3) := by decide +kernel
theorem dX5_linked_5 : decode cX5_linked 5 = .ok (.aload_n 0, 1) := by decide +kernel
theorem dX5_linked_6 : decode cX5_linked 6 = .ok (.invokevirtual 97, 3) := by decide +kernel
theorem dX5_linked_9 : decode cX5_linked 9 = .ok (.aload_n 0, 1) := by decide +kernel
theorem dX5_linked_10 : decode cX5_linked 10 = .ok (.invokevirtual 100, 3) := by decide +kernel
theorem dX5_linked_13 : decode cX5_linked 13 = .ok (.isub, 1) := by decide +kernel
theorem dX5_linked_14 : decode cX5_linked 14 = .ok (.bipush 10, 2) := by decide +kernel
theorem dX5_linked_16 : decode cX5_linked 16 = .ok (.idiv, 1) := by decide +kernel
theorem dX5_linked_17 : decode cX5_linked 17 = .ok (.iadd, 1) := by decide +kernel
theorem dX5_linked_18 : decode cX5_linked 18 = .ok (.istore_n 2, 1) := by decide +kernel
theorem dX5_linked_19 : decode cX5_linked 19 = .ok (.iload_n 2, 1) := by decide +kernel
theorem dX5_linked_20 : decode cX5_linked 20 = .ok (.ifCond .ge 7, 3) := by decide +kernel
theorem dX5_linked_23 : decode cX5_linked 23 = .ok (.iconst 0, 1) := by decide +kernel
theorem dX5_linked_24 : decode cX5_linked 24 = .ok (.goto 19, 3) := by decide +kernel
theorem dX5_linked_27 : decode cX5_linked 27 = .ok (.iload_n 2, 1) := by decide +kernel
theorem dX5_linked_28 : decode cX5_linked 28 = .ok (.aload_n 0, 1) := by decide +kernel
theorem dX5_linked_29 : decode cX5_linked 29 = .ok (.invokevirtual 90, 3) := by decide +kernel
theorem dX5_linked_32 : decode cX5_linked 32 = .ok (.if_icmp .le 10, 3) := by decide +kernel
theorem dX5_linked_35 : decode cX5_linked 35 = .ok (.aload_n 0, 1) := by decide +kernel
theorem dX5_linked_36 : decode cX5_linked 36 = .ok (.invokevirtual 90, 3) := by decide +kernel
theorem dX5_linked_39 : decode cX5_linked 39 = .ok (.goto 4, 3) := by decide +kernel
theorem dX5_linked_42 : decode cX5_linked 42 = .ok (.iload_n 2, 1) := by decide +kernel
theorem dX5_linked_43 : decode cX5_linked 43 = .ok (.ireturn, 1) := by decide +kernel
theorem dX5_dropped_0 : decode cX5_dropped 0 = .ok (.aload_n 0, 1) := by decide +kernel
theorem dX5_dropped_1 : decode cX5_dropped 1 = .ok (.invokevirtual 90, 3) := by decide +kernel
theorem dX5_dropped_4 : decode cX5_dropped 4 = .ok (.aload_n 0, 1) := by decide +kernel
theorem dX5_dropped_5 : decode cX5_dropped 5 = .ok (.getfield 7, 3) := by decide +kernel
theorem dX5_dropped_8 : decode cX5_dropped 8 = .ok (.iconst 0, 1) := by decide +kernel
theorem dX5_dropped_9 : decode cX5_dropped 9 = .ok (.iload_n 2, 1) := by decide +kernel
theorem dX5_dropped_10 : decode cX5_dropped 10 = .ok (.iadd, 1) := by decide +kernel
theorem dX5_dropped_11 : decode cX5_dropped 11 = .ok (.iaload, 1) := by decide +kernel
theorem dX5_dropped_12 : decode cX5_dropped 12 = .ok (.isub, 1) := by decide +kernel
theorem dX5_dropped_13 : decode cX5_dropped 13 = .ok (.istore_n 3, 1) := by decide +kernel
theorem dX5_dropped_14 : decode cX5_dropped 14 = .ok (.iload_n 3, 1) := by decide +kernel
theorem dX5_dropped_15 : decode cX5_dropped 15 = .ok (.ifCond .ne 7, 3) := by decide +kernel
theorem dX5_dropped_18 : decode cX5_dropped 18 = .ok (.iconst 0, 1) := by decide +kernel
theorem dX5_dropped_19 : decode cX5_dropped 19 = .ok (.goto 22, 3) := by decide +kernel
theorem dX5_dropped_22 : decode cX5_dropped 22 = .ok (.aload_n 0, 1) := by decide +kernel
theorem dX5_dropped_23 : decode cX5_dropped 23 = .ok (.invokevirtual 90, 3) := by decide +kernel
theorem dX5_dropped_26 : decode cX5_dropped 26 = .ok (.aload_n 0, 1) := by decide +kernel
theorem dX5_dropped_27 : decode cX5_dropped 27 = .ok (.iload_n 1, 1) := by decide +kernel
theorem dX5_dropped_28 : decode cX5_dropped 28 = .ok (.invokevirtual 84, 3) := by decide +kernel
theorem dX5_dropped_31 : decode cX5_dropped 31 = .ok (.aload_n 0, 1) := by decide +kernel
theorem dX5_dropped_32 : decode cX5_dropped 32 = .ok (.iload_n 1, 1) := by decide +kernel
theorem dX5_dropped_33 : decode cX5_dropped 33 = .ok (.iload_n 2, 1) := by decide +kernel
theorem dX5_dropped_34 : decode cX5_dropped 34 = .ok (.invokevirtual 78, 3) := by decide +kernel
theorem dX5_dropped_37 : decode cX5_dropped 37 = .ok (.isub, 1) := by decide +kernel
theorem dX5_dropped_38 : decode cX5_dropped 38 = .ok (.imul, 1) := by decide +kernel
theorem dX5_dropped_39 : decode cX5_dropped 39 = .ok (.iload_n 3, 1) := by decide +kernel
theorem dX5_dropped_40 : decode cX5_dropped 40 = .ok (.idiv, 1) := by decide +kernel
theorem dX5_dropped_41 : decode cX5_dropped 41 = .ok (.ireturn, 1) := by decide +kernel
theorem dX5_markOf_0 : decode cX5_markOf 0 = .ok (.aload_n 0, 1) := by decide +kernel
theorem dX5_markOf_1 : decode cX5_markOf 1 = .ok (.getfield 7, 3) := by decide +kernel
theorem dX5_markOf_4 : decode cX5_markOf 4 = .ok (.sipush 223, 3) := by decide +kernel
theorem dX5_markOf_7 : decode cX5_markOf 7 = .ok (.iconst 2, 1) := by decide +kernel
theorem dX5_markOf_8 : decode cX5_markOf 8 = .ok (.iload_n 1, 1) := by decide +kernel
theorem dX5_markOf_9 : decode cX5_markOf 9 = .ok (.imul, 1) := by decide +kernel
theorem dX5_markOf_10 : decode cX5_markOf 10 = .ok (.iadd, 1) := by decide +kernel
theorem dX5_markOf_11 : decode cX5_markOf 11 = .ok (.iconst 1, 1) := by decide +kernel
theorem dX5_markOf_12 : decode cX5_markOf 12 = .ok (.iadd, 1) := by decide +kernel
theorem dX5_markOf_13 : decode cX5_markOf 13 = .ok (.iaload, 1) := by decide +kernel
theorem dX5_markOf_14 : decode cX5_markOf 14 = .ok (.istore_n 3, 1) := by decide +kernel
theorem dX5_markOf_15 : decode cX5_markOf 15 = .ok (.aload_n 0, 1) := by decide +kernel
theorem dX5_markOf_16 : decode cX5_markOf 16 = .ok (.iload_n 2, 1) := by decide +kernel
theorem dX5_markOf_17 : decode cX5_markOf 17 = .ok (.invokevirtual 84, 3) := by decide +kernel
theorem dX5_markOf_20 : decode cX5_markOf 20 = .ok (.istore 4, 2) := by decide +kernel
theorem dX5_markOf_22 : decode cX5_markOf 22 = .ok (.aload_n 0, 1) := by decide +kernel
theorem dX5_markOf_23 : decode cX5_markOf 23 = .ok (.getfield 7, 3) := by decide +kernel
theorem dX5_markOf_26 : decode cX5_markOf 26 = .ok (.sipush 223, 3) := by decide +kernel
theorem dX5_markOf_29 : decode cX5_markOf 29 = .ok (.iconst 2, 1) := by decide +kernel
theorem dX5_markOf_30 : decode cX5_markOf 30 = .ok (.iload_n 1, 1) := by decide +kernel
theorem dX5_markOf_31 : decode cX5_markOf 31 = .ok (.imul, 1) := by decide +kernel
theorem dX5_markOf_32 : decode cX5_markOf 32 = .ok (.iadd, 1) := by decide +kernel
theorem dX5_markOf_33 : decode cX5_markOf 33 = .ok (.iaload, 1) := by decide +kernel
theorem dX5_markOf_34 : decode cX5_markOf 34 = .ok (.tableswitch 102 1 6 #[38, 61, 67, 79, 86, 92], 38) := by decide +kernel
theorem dX5_markOf_72 : decode cX5_markOf 72 = .ok (.iload 4, 2) := by decide +kernel
theorem dX5_markOf_74 : decode cX5_markOf 74 = .ok (.iload_n 3, 1) := by decide +kernel
theorem dX5_markOf_75 : decode cX5_markOf 75 = .ok (.iadd, 1) := by decide +kernel
theorem dX5_markOf_76 : decode cX5_markOf 76 = .ok (.aload_n 0, 1) := by decide +kernel
theorem dX5_markOf_77 : decode cX5_markOf 77 = .ok (.invokevirtual 90, 3) := by decide +kernel
theorem dX5_markOf_80 : decode cX5_markOf 80 = .ok (.if_icmp .le 10, 3) := by decide +kernel
theorem dX5_markOf_83 : decode cX5_markOf 83 = .ok (.aload_n 0, 1) := by decide +kernel
theorem dX5_markOf_84 : decode cX5_markOf 84 = .ok (.invokevirtual 90, 3) := by decide +kernel
theorem dX5_markOf_87 : decode cX5_markOf 87 = .ok (.goto 7, 3) := by decide +kernel
theorem dX5_markOf_90 : decode cX5_markOf 90 = .ok (.iload 4, 2) := by decide +kernel
theorem dX5_markOf_92 : decode cX5_markOf 92 = .ok (.iload_n 3, 1) := by decide +kernel
theorem dX5_markOf_93 : decode cX5_markOf 93 = .ok (.iadd, 1) := by decide +kernel
theorem dX5_markOf_94 : decode cX5_markOf 94 = .ok (.ireturn, 1) := by decide +kernel
theorem dX5_markOf_95 : decode cX5_markOf 95 = .ok (.aload_n 0, 1) := by decide +kernel
theorem dX5_markOf_96 : decode cX5_markOf 96 = .ok (.iload_n 2, 1) := by decide +kernel
theorem dX5_markOf_97 : decode cX5_markOf 97 = .ok (.invokevirtual 117, 3) := by decide +kernel
theorem dX5_markOf_100 : decode cX5_markOf 100 = .ok (.ireturn, 1) := by decide +kernel
theorem dX5_markOf_101 : decode cX5_markOf 101 = .ok (.bipush 100, 2) := by decide +kernel
theorem dX5_markOf_103 : decode cX5_markOf 103 = .ok (.aload_n 0, 1) := by decide +kernel
theorem dX5_markOf_104 : decode cX5_markOf 104 = .ok (.iload_n 2, 1) := by decide +kernel
theorem dX5_markOf_105 : decode cX5_markOf 105 = .ok (.invokevirtual 117, 3) := by decide +kernel
theorem dX5_markOf_108 : decode cX5_markOf 108 = .ok (.imul, 1) := by decide +kernel
theorem dX5_markOf_109 : decode cX5_markOf 109 = .ok (.invokestatic 120, 3) := by decide +kernel
theorem dX5_markOf_112 : decode cX5_markOf 112 = .ok (.ireturn, 1) := by decide +kernel
theorem dX5_markOf_113 : decode cX5_markOf 113 = .ok (.aload_n 0, 1) := by decide +kernel
theorem dX5_markOf_114 : decode cX5_markOf 114 = .ok (.iload_n 2, 1) := by decide +kernel
theorem dX5_markOf_115 : decode cX5_markOf 115 = .ok (.iload_n 3, 1) := by decide +kernel
theorem dX5_markOf_116 : decode cX5_markOf 116 = .ok (.invokevirtual 123, 3) := by decide +kernel
theorem dX5_markOf_119 : decode cX5_markOf 119 = .ok (.ireturn, 1) := by decide +kernel
theorem dX5_markOf_120 : decode cX5_markOf 120 = .ok (.aload_n 0, 1) := by decide +kernel
theorem dX5_markOf_121 : decode cX5_markOf 121 = .ok (.iload_n 2, 1) := by decide +kernel
theorem dX5_markOf_122 : decode cX5_markOf 122 = .ok (.invokevirtual 126, 3) := by decide +kernel
theorem dX5_markOf_125 : decode cX5_markOf 125 = .ok (.ireturn, 1) := by decide +kernel
theorem dX5_markOf_126 : decode cX5_markOf 126 = .ok (.aload_n 0, 1) := by decide +kernel
theorem dX5_markOf_127 : decode cX5_markOf 127 = .ok (.iload_n 2, 1) := by decide +kernel
theorem dX5_markOf_128 : decode cX5_markOf 128 = .ok (.iload_n 3, 1) := by decide +kernel
theorem dX5_markOf_129 : decode cX5_markOf 129 = .ok (.bipush 8, 2) := by decide +kernel
theorem dX5_markOf_131 : decode cX5_markOf 131 = .ok (.irem, 1) := by decide +kernel
theorem dX5_markOf_132 : decode cX5_markOf 132 = .ok (.invokevirtual 129, 3) := by decide +kernel
theorem dX5_markOf_135 : decode cX5_markOf 135 = .ok (.ireturn, 1) := by decide +kernel
theorem dX5_markOf_136 : decode cX5_markOf 136 = .ok (.iload 4, 2) := by decide +kernel
theorem dX5_markOf_138 : decode cX5_markOf 138 = .ok (.ireturn, 1) := by decide +kernel
theorem dX5_findMarks_0 : decode cX5_findMarks 0 = .ok (.iconst 0, 1) := by decide +kernel
theorem dX5_findMarks_1 : decode cX5_findMarks 1 = .ok (.istore_n 2, 1) := by decide +kernel
theorem dX5_findMarks_2 : decode cX5_findMarks 2 = .ok (.iload_n 2, 1) := by decide +kernel
theorem dX5_findMarks_3 : decode cX5_findMarks 3 = .ok (.aload_n 0, 1) := by decide +kernel
theorem dX5_findMarks_4 : decode cX5_findMarks 4 = .ok (.getfield 7, 3) := by decide +kernel
theorem dX5_findMarks_7 : decode cX5_findMarks 7 = .ok (.bipush 17, 2) := by decide +kernel
theorem dX5_findMarks_9 : decode cX5_findMarks 9 = .ok (.iaload, 1) := by decide +kernel
theorem dX5_findMarks_10 : decode cX5_findMarks 10 = .ok (.if_icmp .ge 21, 3) := by decide +kernel
theorem dX5_findMarks_13 : decode cX5_findMarks 13 = .ok (.aload_n 0, 1) := by decide +kernel
theorem dX5_findMarks_14 : decode cX5_findMarks 14 = .ok (.getfield 22, 3) := by decide +kernel
theorem dX5_findMarks_17 : decode cX5_findMarks 17 = .ok (.iload_n 2, 1) := by decide +kernel
theorem dX5_findMarks_18 : decode cX5_findMarks 18 = .ok (.aload_n 0, 1) := by decide +kernel
theorem dX5_findMarks_19 : decode cX5_findMarks 19 = .ok (.iload_n 1, 1) := by decide +kernel
theorem dX5_findMarks_20 : decode cX5_findMarks 20 = .ok (.iload_n 2, 1) := by decide +kernel
theorem dX5_findMarks_21 : decode cX5_findMarks 21 = .ok (.invokevirtual 132, 3) := by decide +kernel
theorem dX5_findMarks_24 : decode cX5_findMarks 24 = .ok (.iastore, 1) := by decide +kernel
theorem dX5_findMarks_25 : decode cX5_findMarks 25 = .ok (.iinc 2 1, 3) := by decide +kernel
theorem dX5_findMarks_28 : decode cX5_findMarks 28 = .ok (.goto (-26), 3) := by decide +kernel
theorem dX5_findMarks_31 : decode cX5_findMarks 31 = .ok (.return_, 1) := by decide +kernel
theorem dX5_mark_0 : decode cX5_mark 0 = .ok (.aload_n 0, 1) := by decide +kernel
theorem dX5_mark_1 : decode cX5_mark 1 = .ok (.iload_n 1, 1) := by decide +kernel
theorem dX5_mark_2 : decode cX5_mark 2 = .ok (.invokevirtual 114, 3) := by decide +kernel
theorem dX5_mark_5 : decode cX5_mark 5 = .ok (.ifCond .eq 20, 3) := by decide +kernel
theorem dX5_mark_8 : decode cX5_mark 8 = .ok (.aload_n 0, 1) := by decide +kernel
theorem dX5_mark_9 : decode cX5_mark 9 = .ok (.iload_n 2, 1) := by decide +kernel
theorem dX5_mark_10 : decode cX5_mark 10 = .ok (.invokevirtual 75, 3) := by decide +kernel
theorem dX5_mark_13 : decode cX5_mark 13 = .ok (.ifCond .eq 12, 3) := by decide +kernel
theorem dX5_mark_16 : decode cX5_mark 16 = .ok (.aload_n 0, 1) := by decide +kernel
theorem dX5_mark_17 : decode cX5_mark 17 = .ok (.iload_n 1, 1) := by decide +kernel
theorem dX5_mark_18 : decode cX5_mark 18 = .ok (.iload_n 2, 1) := by decide +kernel
theorem dX5_mark_19 : decode cX5_mark 19 = .ok (.invokevirtual 132, 3) := by decide +kernel
theorem dX5_mark_22 : decode cX5_mark 22 = .ok (.goto 9, 3) := by decide +kernel
theorem dX5_mark_25 : decode cX5_mark 25 = .ok (.aload_n 0, 1) := by decide +kernel
theorem dX5_mark_26 : decode cX5_mark 26 = .ok (.ldc 40, 2) := by decide +kernel
theorem dX5_mark_28 : decode cX5_mark 28 = .ok (.invokevirtual 59, 3) := by decide +kernel
theorem dX5_mark_31 : decode cX5_mark 31 = .ok (.ireturn, 1) := by decide +kernel
theorem dX5_place_0 : decode cX5_place 0 = .ok (.aload_n 0, 1) := by decide +kernel
theorem dX5_place_1 : decode cX5_place 1 = .ok (.iload_n 1, 1) := by decide +kernel
theorem dX5_place_2 : decode cX5_place 2 = .ok (.invokevirtual 114, 3) := by decide +kernel
theorem dX5_place_5 : decode cX5_place 5 = .ok (.ifCond .eq 11, 3) := by decide +kernel
theorem dX5_place_8 : decode cX5_place 8 = .ok (.aload_n 0, 1) := by decide +kernel
theorem dX5_place_9 : decode cX5_place 9 = .ok (.iload_n 2, 1) := by decide +kernel
theorem dX5_place_10 : decode cX5_place 10 = .ok (.invokevirtual 75, 3) := by decide +kernel
theorem dX5_place_13 : decode cX5_place 13 = .ok (.ifCond .ne 10, 3) := by decide +kernel
theorem dX5_place_16 : decode cX5_place 16 = .ok (.aload_n 0, 1) := by decide +kernel
theorem dX5_place_17 : decode cX5_place 17 = .ok (.ldc 40, 2) := by decide +kernel
theorem dX5_place_19 : decode cX5_place 19 = .ok (.invokevirtual 59, 3) := by decide +kernel
theorem dX5_place_22 : decode cX5_place 22 = .ok (.ireturn, 1) := by decide +kernel
theorem dX5_place_23 : decode cX5_place 23 = .ok (.aload_n 0, 1) := by decide +kernel
theorem dX5_place_24 : decode cX5_place 24 = .ok (.iload_n 1, 1) := by decide +kernel
theorem dX5_place_25 : decode cX5_place 25 = .ok (.invokevirtual 135, 3) := by decide +kernel
theorem dX5_place_28 : decode cX5_place 28 = .ok (.iconst 1, 1) := by decide +kernel
theorem dX5_place_29 : decode cX5_place 29 = .ok (.istore_n 3, 1) := by decide +kernel
theorem dX5_place_30 : decode cX5_place 30 = .ok (.iconst 0, 1) := by decide +kernel
theorem dX5_place_31 : decode cX5_place 31 = .ok (.istore 4, 2) := by decide +kernel
theorem dX5_place_33 : decode cX5_place 33 = .ok (.iload 4, 2) := by decide +kernel
theorem dX5_place_35 : decode cX5_place 35 = .ok (.aload_n 0, 1) := by decide +kernel
theorem dX5_place_36 : decode cX5_place 36 = .ok (.getfield 7, 3) := by decide +kernel
theorem dX5_place_39 : decode cX5_place 39 = .ok (.bipush 17, 2) := by decide +kernel
theorem dX5_place_41 : decode cX5_place 41 = .ok (.iaload, 1) := by decide +kernel
theorem dX5_place_42 : decode cX5_place 42 = .ok (.if_icmp .ge 33, 3) := by decide +kernel
theorem dX5_place_45 : decode cX5_place 45 = .ok (.iload_n 3, 1) := by decide +kernel
theorem dX5_place_46 : decode cX5_place 46 = .ok (.aload_n 0, 1) := by decide +kernel
theorem dX5_place_47 : decode cX5_place 47 = .ok (.getfield 22, 3) := by decide +kernel
theorem dX5_place_50 : decode cX5_place 50 = .ok (.iload 4, 2) := by decide +kernel
theorem dX5_place_52 : decode cX5_place 52 = .ok (.iaload, 1) := by decide +kernel
theorem dX5_place_53 : decode cX5_place 53 = .ok (.aload_n 0, 1) := by decide +kernel
theorem dX5_place_54 : decode cX5_place 54 = .ok (.getfield 22, 3) := by decide +kernel
theorem dX5_place_57 : decode cX5_place 57 = .ok (.iload_n 2, 1) := by decide +kernel
theorem dX5_place_58 : decode cX5_place 58 = .ok (.iaload, 1) := by decide +kernel
theorem dX5_place_59 : decode cX5_place 59 = .ok (.if_icmp .le 7, 3) := by decide +kernel
theorem dX5_place_62 : decode cX5_place 62 = .ok (.iconst 1, 1) := by decide +kernel
theorem dX5_place_63 : decode cX5_place 63 = .ok (.goto 4, 3) := by decide +kernel
theorem dX5_place_66 : decode cX5_place 66 = .ok (.iconst 0, 1) := by decide +kernel
theorem dX5_place_67 : decode cX5_place 67 = .ok (.iadd, 1) := by decide +kernel
theorem dX5_place_68 : decode cX5_place 68 = .ok (.istore_n 3, 1) := by decide +kernel
theorem dX5_place_69 : decode cX5_place 69 = .ok (.iinc 4 1, 3) := by decide +kernel
theorem dX5_place_72 : decode cX5_place 72 = .ok (.goto (-39), 3) := by decide +kernel
theorem dX5_place_75 : decode cX5_place 75 = .ok (.iload_n 3, 1) := by decide +kernel
theorem dX5_place_76 : decode cX5_place 76 = .ok (.ireturn, 1) := by decide +kernel
theorem dX5_sum_0 : decode cX5_sum 0 = .ok (.aload_n 0, 1) := by decide +kernel
theorem dX5_sum_1 : decode cX5_sum 1 = .ok (.iload_n 1, 1) := by decide +kernel
theorem dX5_sum_2 : decode cX5_sum 2 = .ok (.invokevirtual 114, 3) := by decide +kernel
theorem dX5_sum_5 : decode cX5_sum 5 = .ok (.ifCond .eq 17, 3) := by decide +kernel
theorem dX5_sum_8 : decode cX5_sum 8 = .ok (.iload_n 2, 1) := by decide +kernel
theorem dX5_sum_9 : decode cX5_sum 9 = .ok (.i2l, 1) := by decide +kernel
theorem dX5_sum_10 : decode cX5_sum 10 = .ok (.ldc2_w 67, 3) := by decide +kernel
theorem dX5_sum_13 : decode cX5_sum 13 = .ok (.ldc2_w 69, 3) := by decide +kernel
theorem dX5_sum_16 : decode cX5_sum 16 = .ok (.invokestatic 43, 3) := by decide +kernel
theorem dX5_sum_19 : decode cX5_sum 19 = .ok (.ifCond .ne 10, 3) := by decide +kernel
theorem dX5_sum_22 : decode cX5_sum 22 = .ok (.aload_n 0, 1) := by decide +kernel
theorem dX5_sum_23 : decode cX5_sum 23 = .ok (.ldc 40, 2) := by decide +kernel
theorem dX5_sum_25 : decode cX5_sum 25 = .ok (.invokevirtual 59, 3) := by decide +kernel
theorem dX5_sum_28 : decode cX5_sum 28 = .ok (.ireturn, 1) := by decide +kernel
theorem dX5_sum_29 : decode cX5_sum 29 = .ok (.aload_n 0, 1) := by decide +kernel
theorem dX5_sum_30 : decode cX5_sum 30 = .ok (.iload_n 1, 1) := by decide +kernel
theorem dX5_sum_31 : decode cX5_sum 31 = .ok (.invokevirtual 135, 3) := by decide +kernel
theorem dX5_sum_34 : decode cX5_sum 34 = .ok (.iconst 0, 1) := by decide +kernel
theorem dX5_sum_35 : decode cX5_sum 35 = .ok (.istore_n 3, 1) := by decide +kernel
theorem dX5_sum_36 : decode cX5_sum 36 = .ok (.iconst 0, 1) := by decide +kernel
theorem dX5_sum_37 : decode cX5_sum 37 = .ok (.istore 4, 2) := by decide +kernel
theorem dX5_sum_39 : decode cX5_sum 39 = .ok (.iload 4, 2) := by decide +kernel
theorem dX5_sum_41 : decode cX5_sum 41 = .ok (.aload_n 0, 1) := by decide +kernel
theorem dX5_sum_42 : decode cX5_sum 42 = .ok (.getfield 7, 3) := by decide +kernel
theorem dX5_sum_45 : decode cX5_sum 45 = .ok (.bipush 17, 2) := by decide +kernel
theorem dX5_sum_47 : decode cX5_sum 47 = .ok (.iaload, 1) := by decide +kernel
theorem dX5_sum_48 : decode cX5_sum 48 = .ok (.if_icmp .ge 44, 3) := by decide +kernel
theorem dX5_sum_51 : decode cX5_sum 51 = .ok (.iload_n 3, 1) := by decide +kernel
theorem dX5_sum_52 : decode cX5_sum 52 = .ok (.iload_n 2, 1) := by decide +kernel
theorem dX5_sum_53 : decode cX5_sum 53 = .ok (.ifCond .lt 20, 3) := by decide +kernel
theorem dX5_sum_56 : decode cX5_sum 56 = .ok (.aload_n 0, 1) := by decide +kernel
theorem dX5_sum_57 : decode cX5_sum 57 = .ok (.getfield 7, 3) := by decide +kernel
theorem dX5_sum_60 : decode cX5_sum 60 = .ok (.bipush 19, 2) := by decide +kernel
theorem dX5_sum_62 : decode cX5_sum 62 = .ok (.bipush 17, 2) := by decide +kernel
theorem dX5_sum_64 : decode cX5_sum 64 = .ok (.iload 4, 2) := by decide +kernel
theorem dX5_sum_66 : decode cX5_sum 66 = .ok (.imul, 1) := by decide +kernel
theorem dX5_sum_67 : decode cX5_sum 67 = .ok (.iadd, 1) := by decide +kernel
theorem dX5_sum_68 : decode cX5_sum 68 = .ok (.iaload, 1) := by decide +kernel
theorem dX5_sum_69 : decode cX5_sum 69 = .ok (.iload_n 2, 1) := by decide +kernel
theorem dX5_sum_70 : decode cX5_sum 70 = .ok (.if_icmp .ne 13, 3) := by decide +kernel
theorem dX5_sum_73 : decode cX5_sum 73 = .ok (.aload_n 0, 1) := by decide +kernel
theorem dX5_sum_74 : decode cX5_sum 74 = .ok (.getfield 22, 3) := by decide +kernel
theorem dX5_sum_77 : decode cX5_sum 77 = .ok (.iload 4, 2) := by decide +kernel
theorem dX5_sum_79 : decode cX5_sum 79 = .ok (.iaload, 1) := by decide +kernel
theorem dX5_sum_80 : decode cX5_sum 80 = .ok (.goto 4, 3) := by decide +kernel
theorem dX5_sum_83 : decode cX5_sum 83 = .ok (.iconst 0, 1) := by decide +kernel
theorem dX5_sum_84 : decode cX5_sum 84 = .ok (.iadd, 1) := by decide +kernel
theorem dX5_sum_85 : decode cX5_sum 85 = .ok (.istore_n 3, 1) := by decide +kernel
theorem dX5_sum_86 : decode cX5_sum 86 = .ok (.iinc 4 1, 3) := by decide +kernel
theorem dX5_sum_89 : decode cX5_sum 89 = .ok (.goto (-50), 3) := by decide +kernel
theorem dX5_sum_92 : decode cX5_sum 92 = .ok (.iload_n 3, 1) := by decide +kernel
theorem dX5_sum_93 : decode cX5_sum 93 = .ok (.ireturn, 1) := by decide +kernel
theorem dX5_middle_0 : decode cX5_middle 0 = .ok (.aload_n 0, 1) := by decide +kernel
theorem dX5_middle_1 : decode cX5_middle 1 = .ok (.iload_n 1, 1) := by decide +kernel
theorem dX5_middle_2 : decode cX5_middle 2 = .ok (.invokevirtual 114, 3) := by decide +kernel
theorem dX5_middle_5 : decode cX5_middle 5 = .ok (.ifCond .ne 10, 3) := by decide +kernel
theorem dX5_middle_8 : decode cX5_middle 8 = .ok (.aload_n 0, 1) := by decide +kernel
theorem dX5_middle_9 : decode cX5_middle 9 = .ok (.ldc 40, 2) := by decide +kernel
theorem dX5_middle_11 : decode cX5_middle 11 = .ok (.invokevirtual 59, 3) := by decide +kernel
theorem dX5_middle_14 : decode cX5_middle 14 = .ok (.ireturn, 1) := by decide +kernel
theorem dX5_middle_15 : decode cX5_middle 15 = .ok (.aload_n 0, 1) := by decide +kernel
theorem dX5_middle_16 : decode cX5_middle 16 = .ok (.getfield 7, 3) := by decide +kernel
theorem dX5_middle_19 : decode cX5_middle 19 = .ok (.bipush 17, 2) := by decide +kernel
theorem dX5_middle_21 : decode cX5_middle 21 = .ok (.iaload, 1) := by decide +kernel
theorem dX5_middle_22 : decode cX5_middle 22 = .ok (.istore_n 2, 1) := by decide +kernel
theorem dX5_middle_23 : decode cX5_middle 23 = .ok (.iload_n 2, 1) := by decide +kernel
theorem dX5_middle_24 : decode cX5_middle 24 = .ok (.ifCond .ne 10, 3) := by decide +kernel
theorem dX5_middle_27 : decode cX5_middle 27 = .ok (.aload_n 0, 1) := by decide +kernel
theorem dX5_middle_28 : decode cX5_middle 28 = .ok (.ldc 89, 2) := by decide +kernel
theorem dX5_middle_30 : decode cX5_middle 30 = .ok (.invokevirtual 59, 3) := by decide +kernel
theorem dX5_middle_33 : decode cX5_middle 33 = .ok (.ireturn, 1) := by decide +kernel
theorem dX5_middle_34 : decode cX5_middle 34 = .ok (.aload_n 0, 1) := by decide +kernel
theorem dX5_middle_35 : decode cX5_middle 35 = .ok (.iload_n 1, 1) := by decide +kernel
theorem dX5_middle_36 : decode cX5_middle 36 = .ok (.invokevirtual 135, 3) := by decide +kernel
theorem dX5_middle_39 : decode cX5_middle 39 = .ok (.iconst 0, 1) := by decide +kernel
theorem dX5_middle_40 : decode cX5_middle 40 = .ok (.istore_n 3, 1) := by decide +kernel
theorem dX5_middle_41 : decode cX5_middle 41 = .ok (.iconst 0, 1) := by decide +kernel
theorem dX5_middle_42 : decode cX5_middle 42 = .ok (.istore 4, 2) := by decide +kernel
theorem dX5_middle_44 : decode cX5_middle 44 = .ok (.iload 4, 2) := by decide +kernel
theorem dX5_middle_46 : decode cX5_middle 46 = .ok (.iload_n 2, 1) := by decide +kernel
theorem dX5_middle_47 : decode cX5_middle 47 = .ok (.if_icmp .ge 119, 3) := by decide +kernel
theorem dX5_middle_50 : decode cX5_middle 50 = .ok (.iconst 0, 1) := by decide +kernel
theorem dX5_middle_51 : decode cX5_middle 51 = .ok (.istore 5, 2) := by decide +kernel
theorem dX5_middle_53 : decode cX5_middle 53 = .ok (.iconst 0, 1) := by decide +kernel
theorem dX5_middle_54 : decode cX5_middle 54 = .ok (.istore 6, 2) := by decide +kernel
theorem dX5_middle_56 : decode cX5_middle 56 = .ok (.iconst 0, 1) := by decide +kernel
theorem dX5_middle_57 : decode cX5_middle 57 = .ok (.istore 7, 2) := by decide +kernel
theorem dX5_middle_59 : decode cX5_middle 59 = .ok (.iload 7, 2) := by decide +kernel
theorem dX5_middle_61 : decode cX5_middle 61 = .ok (.iload_n 2, 1) := by decide +kernel
theorem dX5_middle_62 : decode cX5_middle 62 = .ok (.if_icmp .ge 63, 3) := by decide +kernel
theorem dX5_middle_65 : decode cX5_middle 65 = .ok (.iload 5, 2) := by decide +kernel
theorem dX5_middle_67 : decode cX5_middle 67 = .ok (.aload_n 0, 1) := by decide +kernel
theorem dX5_middle_68 : decode cX5_middle 68 = .ok (.getfield 22, 3) := by decide +kernel
theorem dX5_middle_71 : decode cX5_middle 71 = .ok (.iload 7, 2) := by decide +kernel
theorem dX5_middle_73 : decode cX5_middle 73 = .ok (.iaload, 1) := by decide +kernel
theorem dX5_middle_74 : decode cX5_middle 74 = .ok (.aload_n 0, 1) := by decide +kernel
theorem dX5_middle_75 : decode cX5_middle 75 = .ok (.getfield 22, 3) := by decide +kernel
theorem dX5_middle_78 : decode cX5_middle 78 = .ok (.iload 4, 2) := by decide +kernel
theorem dX5_middle_80 : decode cX5_middle 80 = .ok (.iaload, 1) := by decide +kernel
theorem dX5_middle_81 : decode cX5_middle 81 = .ok (.if_icmp .ge 7, 3) := by decide +kernel
theorem dX5_middle_84 : decode cX5_middle 84 = .ok (.iconst 1, 1) := by decide +kernel
theorem dX5_middle_85 : decode cX5_middle 85 = .ok (.goto 4, 3) := by decide +kernel
theorem dX5_middle_88 : decode cX5_middle 88 = .ok (.iconst 0, 1) := by decide +kernel
theorem dX5_middle_89 : decode cX5_middle 89 = .ok (.iadd, 1) := by decide +kernel
theorem dX5_middle_90 : decode cX5_middle 90 = .ok (.istore 5, 2) := by decide +kernel
theorem dX5_middle_92 : decode cX5_middle 92 = .ok (.iload 6, 2) := by decide +kernel
theorem dX5_middle_94 : decode cX5_middle 94 = .ok (.aload_n 0, 1) := by decide +kernel
theorem dX5_middle_95 : decode cX5_middle 95 = .ok (.getfield 22, 3) := by decide +kernel
theorem dX5_middle_98 : decode cX5_middle 98 = .ok (.iload 7, 2) := by decide +kernel
theorem dX5_middle_100 : decode cX5_middle 100 = .ok (.iaload, 1) := by decide +kernel
theorem dX5_middle_101 : decode cX5_middle 101 = .ok (.aload_n 0, 1) := by decide +kernel
theorem dX5_middle_102 : decode cX5_middle 102 = .ok (.getfield 22, 3) := by decide +kernel
theorem dX5_middle_105 : decode cX5_middle 105 = .ok (.iload 4, 2) := by decide +kernel
theorem dX5_middle_107 : decode cX5_middle 107 = .ok (.iaload, 1) := by decide +kernel
theorem dX5_middle_108 : decode cX5_middle 108 = .ok (.if_icmp .ne 7, 3) := by decide +kernel
theorem dX5_middle_111 : decode cX5_middle 111 = .ok (.iconst 1, 1) := by decide +kernel
theorem dX5_middle_112 : decode cX5_middle 112 = .ok (.goto 4, 3) := by decide +kernel
theorem dX5_middle_115 : decode cX5_middle 115 = .ok (.iconst 0, 1) := by decide +kernel
theorem dX5_middle_116 : decode cX5_middle 116 = .ok (.iadd, 1) := by decide +kernel
theorem dX5_middle_117 : decode cX5_middle 117 = .ok (.istore 6, 2) := by decide +kernel
theorem dX5_middle_119 : decode cX5_middle 119 = .ok (.iinc 7 1, 3) := by decide +kernel
theorem dX5_middle_122 : decode cX5_middle 122 = .ok (.goto (-63), 3) := by decide +kernel
theorem dX5_middle_125 : decode cX5_middle 125 = .ok (.iload 5, 2) := by decide +kernel
theorem dX5_middle_127 : decode cX5_middle 127 = .ok (.iload_n 2, 1) := by decide +kernel
theorem dX5_middle_128 : decode cX5_middle 128 = .ok (.iconst 1, 1) := by decide +kernel
theorem dX5_middle_129 : decode cX5_middle 129 = .ok (.isub, 1) := by decide +kernel
theorem dX5_middle_130 : decode cX5_middle 130 = .ok (.iconst 2, 1) := by decide +kernel
theorem dX5_middle_131 : decode cX5_middle 131 = .ok (.idiv, 1) := by decide +kernel
theorem dX5_middle_132 : decode cX5_middle 132 = .ok (.if_icmp .gt 26, 3) := by decide +kernel
theorem dX5_middle_135 : decode cX5_middle 135 = .ok (.iload 5, 2) := by decide +kernel
theorem dX5_middle_137 : decode cX5_middle 137 = .ok (.iload 6, 2) := by decide +kernel
theorem dX5_middle_139 : decode cX5_middle 139 = .ok (.iadd, 1) := by decide +kernel
theorem dX5_middle_140 : decode cX5_middle 140 = .ok (.iload_n 2, 1) := by decide +kernel
theorem dX5_middle_141 : decode cX5_middle 141 = .ok (.iconst 1, 1) := by decide +kernel
theorem dX5_middle_142 : decode cX5_middle 142 = .ok (.isub, 1) := by decide +kernel
theorem dX5_middle_143 : decode cX5_middle 143 = .ok (.iconst 2, 1) := by decide +kernel
theorem dX5_middle_144 : decode cX5_middle 144 = .ok (.idiv, 1) := by decide +kernel
theorem dX5_middle_145 : decode cX5_middle 145 = .ok (.if_icmp .le 13, 3) := by decide +kernel
theorem dX5_middle_148 : decode cX5_middle 148 = .ok (.aload_n 0, 1) := by decide +kernel
theorem dX5_middle_149 : decode cX5_middle 149 = .ok (.getfield 22, 3) := by decide +kernel
theorem dX5_middle_152 : decode cX5_middle 152 = .ok (.iload 4, 2) := by decide +kernel
theorem dX5_middle_154 : decode cX5_middle 154 = .ok (.iaload, 1) := by decide +kernel
theorem dX5_middle_155 : decode cX5_middle 155 = .ok (.goto 4, 3) := by decide +kernel
theorem dX5_middle_158 : decode cX5_middle 158 = .ok (.iload_n 3, 1) := by decide +kernel
theorem dX5_middle_159 : decode cX5_middle 159 = .ok (.istore_n 3, 1) := by decide +kernel
theorem dX5_middle_160 : decode cX5_middle 160 = .ok (.iinc 4 1, 3) := by decide +kernel
theorem dX5_middle_163 : decode cX5_middle 163 = .ok (.goto (-119), 3) := by decide +kernel
theorem dX5_middle_166 : decode cX5_middle 166 = .ok (.iload_n 3, 1) := by decide +kernel
theorem dX5_middle_167 : decode cX5_middle 167 = .ok (.ireturn, 1) := by decide +kernel
theorem dX5_breaking_0 : decode cX5_breaking 0 = .ok (.aload_n 0, 1) := by decide +kernel
theorem dX5_breaking_1 : decode cX5_breaking 1 = .ok (.iload_n 1, 1) := by decide +kernel
theorem dX5_breaking_2 : decode cX5_breaking 2 = .ok (.invokevirtual 135, 3) := by decide +kernel
theorem dX5_breaking_5 : decode cX5_breaking 5 = .ok (.iconst 0, 1) := by decide +kernel
theorem dX5_breaking_6 : decode cX5_breaking 6 = .ok (.istore_n 2, 1) := by decide +kernel
theorem dX5_breaking_7 : decode cX5_breaking 7 = .ok (.iload_n 2, 1) := by decide +kernel
theorem dX5_breaking_8 : decode cX5_breaking 8 = .ok (.aload_n 0, 1) := by decide +kernel
theorem dX5_breaking_9 : decode cX5_breaking 9 = .ok (.getfield 7, 3) := by decide +kernel
theorem dX5_breaking_12 : decode cX5_breaking 12 = .ok (.bipush 17, 2) := by decide +kernel
theorem dX5_breaking_14 : decode cX5_breaking 14 = .ok (.iaload, 1) := by decide +kernel
theorem dX5_breaking_15 : decode cX5_breaking 15 = .ok (.if_icmp .ge 63, 3) := by decide +kernel
theorem dX5_breaking_18 : decode cX5_breaking 18 = .ok (.iconst 0, 1) := by decide +kernel
theorem dX5_breaking_19 : decode cX5_breaking 19 = .ok (.istore_n 3, 1) := by decide +kernel
theorem dX5_breaking_20 : decode cX5_breaking 20 = .ok (.iload_n 3, 1) := by decide +kernel
theorem dX5_breaking_21 : decode cX5_breaking 21 = .ok (.aload_n 0, 1) := by decide +kernel
theorem dX5_breaking_22 : decode cX5_breaking 22 = .ok (.getfield 7, 3) := by decide +kernel
theorem dX5_breaking_25 : decode cX5_breaking 25 = .ok (.bipush 17, 2) := by decide +kernel
theorem dX5_breaking_27 : decode cX5_breaking 27 = .ok (.iaload, 1) := by decide +kernel
theorem dX5_breaking_28 : decode cX5_breaking 28 = .ok (.if_icmp .ge 44, 3) := by decide +kernel
theorem dX5_breaking_31 : decode cX5_breaking 31 = .ok (.aload_n 0, 1) := by decide +kernel
theorem dX5_breaking_32 : decode cX5_breaking 32 = .ok (.iload_n 2, 1) := by decide +kernel
theorem dX5_breaking_33 : decode cX5_breaking 33 = .ok (.invokevirtual 84, 3) := by decide +kernel
theorem dX5_breaking_36 : decode cX5_breaking 36 = .ok (.aload_n 0, 1) := by decide +kernel
theorem dX5_breaking_37 : decode cX5_breaking 37 = .ok (.iload_n 3, 1) := by decide +kernel
theorem dX5_breaking_38 : decode cX5_breaking 38 = .ok (.invokevirtual 84, 3) := by decide +kernel
theorem dX5_breaking_41 : decode cX5_breaking 41 = .ok (.if_icmp .le 25, 3) := by decide +kernel
theorem dX5_breaking_44 : decode cX5_breaking 44 = .ok (.aload_n 0, 1) := by decide +kernel
theorem dX5_breaking_45 : decode cX5_breaking 45 = .ok (.getfield 22, 3) := by decide +kernel
theorem dX5_breaking_48 : decode cX5_breaking 48 = .ok (.iload_n 2, 1) := by decide +kernel
theorem dX5_breaking_49 : decode cX5_breaking 49 = .ok (.iaload, 1) := by decide +kernel
theorem dX5_breaking_50 : decode cX5_breaking 50 = .ok (.aload_n 0, 1) := by decide +kernel
theorem dX5_breaking_51 : decode cX5_breaking 51 = .ok (.getfield 22, 3) := by decide +kernel
theorem dX5_breaking_54 : decode cX5_breaking 54 = .ok (.iload_n 3, 1) := by decide +kernel
theorem dX5_breaking_55 : decode cX5_breaking 55 = .ok (.iaload, 1) := by decide +kernel
theorem dX5_breaking_56 : decode cX5_breaking 56 = .ok (.if_icmp .ge 10, 3) := by decide +kernel
theorem dX5_breaking_59 : decode cX5_breaking 59 = .ok (.bipush 100, 2) := by decide +kernel
theorem dX5_breaking_61 : decode cX5_breaking 61 = .ok (.iload_n 2, 1) := by decide +kernel
theorem dX5_breaking_62 : decode cX5_breaking 62 = .ok (.imul, 1) := by decide +kernel
theorem dX5_breaking_63 : decode cX5_breaking 63 = .ok (.iload_n 3, 1) := by decide +kernel
theorem dX5_breaking_64 : decode cX5_breaking 64 = .ok (.iadd, 1) := by decide +kernel
theorem dX5_breaking_65 : decode cX5_breaking 65 = .ok (.ireturn, 1) := by decide +kernel
theorem dX5_breaking_66 : decode cX5_breaking 66 = .ok (.iinc 3 1, 3) := by decide +kernel
theorem dX5_breaking_69 : decode cX5_breaking 69 = .ok (.goto (-49), 3) := by decide +kernel
theorem dX5_breaking_72 : decode cX5_breaking 72 = .ok (.iinc 2 1, 3) := by decide +kernel
theorem dX5_breaking_75 : decode cX5_breaking 75 = .ok (.goto (-68), 3) := by decide +kernel
theorem dX5_breaking_78 : decode cX5_breaking 78 = .ok (.iconst (-1), 1) := by decide +kernel
theorem dX5_breaking_79 : decode cX5_breaking 79 = .ok (.ireturn, 1) := by decide +kernel
theorem dX5_keeps_0 : decode cX5_keeps 0 = .ok (.aload_n 0, 1) := by decide +kernel
theorem dX5_keeps_1 : decode cX5_keeps 1 = .ok (.iload_n 1, 1) := by decide +kernel
theorem dX5_keeps_2 : decode cX5_keeps 2 = .ok (.invokevirtual 114, 3) := by decide +kernel
theorem dX5_keeps_5 : decode cX5_keeps 5 = .ok (.ifCond .ne 12, 3) := by decide +kernel
theorem dX5_keeps_8 : decode cX5_keeps 8 = .ok (.aload_n 0, 1) := by decide +kernel
theorem dX5_keeps_9 : decode cX5_keeps 9 = .ok (.ldc 40, 2) := by decide +kernel
theorem dX5_keeps_11 : decode cX5_keeps 11 = .ok (.invokevirtual 59, 3) := by decide +kernel
theorem dX5_keeps_14 : decode cX5_keeps 14 = .ok (.goto 16, 3) := by decide +kernel
theorem dX5_keeps_17 : decode cX5_keeps 17 = .ok (.aload_n 0, 1) := by decide +kernel
theorem dX5_keeps_18 : decode cX5_keeps 18 = .ok (.iload_n 1, 1) := by decide +kernel
theorem dX5_keeps_19 : decode cX5_keeps 19 = .ok (.invokevirtual 139, 3) := by decide +kernel
theorem dX5_keeps_22 : decode cX5_keeps 22 = .ok (.ifCond .ge 7, 3) := by decide +kernel
theorem dX5_keeps_25 : decode cX5_keeps 25 = .ok (.iconst 1, 1) := by decide +kernel
theorem dX5_keeps_26 : decode cX5_keeps 26 = .ok (.goto 4, 3) := by decide +kernel
theorem dX5_keeps_29 : decode cX5_keeps 29 = .ok (.iconst 0, 1) := by decide +kernel
theorem dX5_keeps_30 : decode cX5_keeps 30 = .ok (.ireturn, 1) := by decide +kernel
theorem dX5_breaks_0 : decode cX5_breaks 0 = .ok (.aload_n 0, 1) := by decide +kernel
theorem dX5_breaks_1 : decode cX5_breaks 1 = .ok (.iload_n 1, 1) := by decide +kernel
theorem dX5_breaks_2 : decode cX5_breaks 2 = .ok (.invokevirtual 114, 3) := by decide +kernel
theorem dX5_breaks_5 : decode cX5_breaks 5 = .ok (.ifCond .ne 10, 3) := by decide +kernel
theorem dX5_breaks_8 : decode cX5_breaks 8 = .ok (.aload_n 0, 1) := by decide +kernel
theorem dX5_breaks_9 : decode cX5_breaks 9 = .ok (.ldc 40, 2) := by decide +kernel
theorem dX5_breaks_11 : decode cX5_breaks 11 = .ok (.invokevirtual 59, 3) := by decide +kernel
theorem dX5_breaks_14 : decode cX5_breaks 14 = .ok (.ireturn, 1) := by decide +kernel
theorem dX5_breaks_15 : decode cX5_breaks 15 = .ok (.aload_n 0, 1) := by decide +kernel
theorem dX5_breaks_16 : decode cX5_breaks 16 = .ok (.iload_n 1, 1) := by decide +kernel
theorem dX5_breaks_17 : decode cX5_breaks 17 = .ok (.invokevirtual 139, 3) := by decide +kernel
theorem dX5_breaks_20 : decode cX5_breaks 20 = .ok (.istore_n 2, 1) := by decide +kernel
theorem dX5_breaks_21 : decode cX5_breaks 21 = .ok (.iload_n 2, 1) := by decide +kernel
theorem dX5_breaks_22 : decode cX5_breaks 22 = .ok (.ifCond .ge 12, 3) := by decide +kernel
theorem dX5_breaks_25 : decode cX5_breaks 25 = .ok (.aload_n 0, 1) := by decide +kernel
theorem dX5_breaks_26 : decode cX5_breaks 26 = .ok (.ldc 89, 2) := by decide +kernel
theorem dX5_breaks_28 : decode cX5_breaks 28 = .ok (.invokevirtual 59, 3) := by decide +kernel
theorem dX5_breaks_31 : decode cX5_breaks 31 = .ok (.goto 4, 3) := by decide +kernel
theorem dX5_breaks_34 : decode cX5_breaks 34 = .ok (.iload_n 2, 1) := by decide +kernel
theorem dX5_breaks_35 : decode cX5_breaks 35 = .ok (.ireturn, 1) := by decide +kernel
theorem dX5_heaped_0 : decode cX5_heaped 0 = .ok (.aload_n 0, 1) := by decide +kernel
theorem dX5_heaped_1 : decode cX5_heaped 1 = .ok (.iload_n 1, 1) := by decide +kernel
theorem dX5_heaped_2 : decode cX5_heaped 2 = .ok (.invokevirtual 114, 3) := by decide +kernel
theorem dX5_heaped_5 : decode cX5_heaped 5 = .ok (.ifCond .ne 10, 3) := by decide +kernel
theorem dX5_heaped_8 : decode cX5_heaped 8 = .ok (.aload_n 0, 1) := by decide +kernel
theorem dX5_heaped_9 : decode cX5_heaped 9 = .ok (.ldc 40, 2) := by decide +kernel
theorem dX5_heaped_11 : decode cX5_heaped 11 = .ok (.invokevirtual 59, 3) := by decide +kernel
theorem dX5_heaped_14 : decode cX5_heaped 14 = .ok (.ireturn, 1) := by decide +kernel
theorem dX5_heaped_15 : decode cX5_heaped 15 = .ok (.aload_n 0, 1) := by decide +kernel
theorem dX5_heaped_16 : decode cX5_heaped 16 = .ok (.iload_n 1, 1) := by decide +kernel
theorem dX5_heaped_17 : decode cX5_heaped 17 = .ok (.invokevirtual 135, 3) := by decide +kernel
theorem dX5_heaped_20 : decode cX5_heaped 20 = .ok (.iconst 0, 1) := by decide +kernel
theorem dX5_heaped_21 : decode cX5_heaped 21 = .ok (.istore_n 2, 1) := by decide +kernel
theorem dX5_heaped_22 : decode cX5_heaped 22 = .ok (.iconst 0, 1) := by decide +kernel
theorem dX5_heaped_23 : decode cX5_heaped 23 = .ok (.istore_n 3, 1) := by decide +kernel
theorem dX5_heaped_24 : decode cX5_heaped 24 = .ok (.iload_n 3, 1) := by decide +kernel
theorem dX5_heaped_25 : decode cX5_heaped 25 = .ok (.aload_n 0, 1) := by decide +kernel
theorem dX5_heaped_26 : decode cX5_heaped 26 = .ok (.getfield 7, 3) := by decide +kernel
theorem dX5_heaped_29 : decode cX5_heaped 29 = .ok (.bipush 17, 2) := by decide +kernel
theorem dX5_heaped_31 : decode cX5_heaped 31 = .ok (.iaload, 1) := by decide +kernel
theorem dX5_heaped_32 : decode cX5_heaped 32 = .ok (.if_icmp .ge 62, 3) := by decide +kernel
theorem dX5_heaped_35 : decode cX5_heaped 35 = .ok (.iconst 0, 1) := by decide +kernel
theorem dX5_heaped_36 : decode cX5_heaped 36 = .ok (.istore 4, 2) := by decide +kernel
theorem dX5_heaped_38 : decode cX5_heaped 38 = .ok (.iload 4, 2) := by decide +kernel
theorem dX5_heaped_40 : decode cX5_heaped 40 = .ok (.iload_n 3, 1) := by decide +kernel
theorem dX5_heaped_41 : decode cX5_heaped 41 = .ok (.if_icmp .ge 47, 3) := by decide +kernel
theorem dX5_heaped_44 : decode cX5_heaped 44 = .ok (.iload_n 2, 1) := by decide +kernel
theorem dX5_heaped_45 : decode cX5_heaped 45 = .ok (.aload_n 0, 1) := by decide +kernel
theorem dX5_heaped_46 : decode cX5_heaped 46 = .ok (.iload_n 3, 1) := by decide +kernel
theorem dX5_heaped_47 : decode cX5_heaped 47 = .ok (.invokevirtual 84, 3) := by decide +kernel
theorem dX5_heaped_50 : decode cX5_heaped 50 = .ok (.aload_n 0, 1) := by decide +kernel
theorem dX5_heaped_51 : decode cX5_heaped 51 = .ok (.iload 4, 2) := by decide +kernel
theorem dX5_heaped_53 : decode cX5_heaped 53 = .ok (.invokevirtual 84, 3) := by decide +kernel
theorem dX5_heaped_56 : decode cX5_heaped 56 = .ok (.if_icmp .eq 23, 3) := by decide +kernel
theorem dX5_heaped_59 : decode cX5_heaped 59 = .ok (.aload_n 0, 1) := by decide +kernel
theorem dX5_heaped_60 : decode cX5_heaped 60 = .ok (.getfield 22, 3) := by decide +kernel
theorem dX5_heaped_63 : decode cX5_heaped 63 = .ok (.iload_n 3, 1) := by decide +kernel
theorem dX5_heaped_64 : decode cX5_heaped 64 = .ok (.iaload, 1) := by decide +kernel
theorem dX5_heaped_65 : decode cX5_heaped 65 = .ok (.aload_n 0, 1) := by decide +kernel
theorem dX5_heaped_66 : decode cX5_heaped 66 = .ok (.getfield 22, 3) := by decide +kernel
theorem dX5_heaped_69 : decode cX5_heaped 69 = .ok (.iload 4, 2) := by decide +kernel
theorem dX5_heaped_71 : decode cX5_heaped 71 = .ok (.iaload, 1) := by decide +kernel
theorem dX5_heaped_72 : decode cX5_heaped 72 = .ok (.if_icmp .ne 7, 3) := by decide +kernel
theorem dX5_heaped_75 : decode cX5_heaped 75 = .ok (.iconst 1, 1) := by decide +kernel
theorem dX5_heaped_76 : decode cX5_heaped 76 = .ok (.goto 4, 3) := by decide +kernel
theorem dX5_heaped_79 : decode cX5_heaped 79 = .ok (.iconst 0, 1) := by decide +kernel
theorem dX5_heaped_80 : decode cX5_heaped 80 = .ok (.iadd, 1) := by decide +kernel
theorem dX5_heaped_81 : decode cX5_heaped 81 = .ok (.istore_n 2, 1) := by decide +kernel
theorem dX5_heaped_82 : decode cX5_heaped 82 = .ok (.iinc 4 1, 3) := by decide +kernel
theorem dX5_heaped_85 : decode cX5_heaped 85 = .ok (.goto (-47), 3) := by decide +kernel
theorem dX5_heaped_88 : decode cX5_heaped 88 = .ok (.iinc 3 1, 3) := by decide +kernel
theorem dX5_heaped_91 : decode cX5_heaped 91 = .ok (.goto (-67), 3) := by decide +kernel
theorem dX5_heaped_94 : decode cX5_heaped 94 = .ok (.iload_n 2, 1) := by decide +kernel
theorem dX5_heaped_95 : decode cX5_heaped 95 = .ok (.ireturn, 1) := by decide +kernel
theorem dX5_gaining_0 : decode cX5_gaining 0 = .ok (.aload_n 0, 1) := by decide +kernel
theorem dX5_gaining_1 : decode cX5_gaining 1 = .ok (.iload_n 1, 1) := by decide +kernel
theorem dX5_gaining_2 : decode cX5_gaining 2 = .ok (.iload_n 2, 1) := by decide +kernel
theorem dX5_gaining_3 : decode cX5_gaining 3 = .ok (.invokevirtual 132, 3) := by decide +kernel
theorem dX5_gaining_6 : decode cX5_gaining 6 = .ok (.istore_n 3, 1) := by decide +kernel
theorem dX5_gaining_7 : decode cX5_gaining 7 = .ok (.iconst (-1), 1) := by decide +kernel
theorem dX5_gaining_8 : decode cX5_gaining 8 = .ok (.istore 4, 2) := by decide +kernel
theorem dX5_gaining_10 : decode cX5_gaining 10 = .ok (.iconst 0, 1) := by decide +kernel
theorem dX5_gaining_11 : decode cX5_gaining 11 = .ok (.istore 5, 2) := by decide +kernel
theorem dX5_gaining_13 : decode cX5_gaining 13 = .ok (.iload 5, 2) := by decide +kernel
theorem dX5_gaining_15 : decode cX5_gaining 15 = .ok (.bipush 8, 2) := by decide +kernel
theorem dX5_gaining_17 : decode cX5_gaining 17 = .ok (.if_icmp .ge 131, 3) := by decide +kernel
theorem dX5_gaining_20 : decode cX5_gaining 20 = .ok (.aload_n 0, 1) := by decide +kernel
theorem dX5_gaining_21 : decode cX5_gaining 21 = .ok (.getfield 7, 3) := by decide +kernel
theorem dX5_gaining_24 : decode cX5_gaining 24 = .ok (.iload_n 2, 1) := by decide +kernel
theorem dX5_gaining_25 : decode cX5_gaining 25 = .ok (.iconst 0, 1) := by decide +kernel
theorem dX5_gaining_26 : decode cX5_gaining 26 = .ok (.iload 5, 2) := by decide +kernel
theorem dX5_gaining_28 : decode cX5_gaining 28 = .ok (.invokestatic 49, 3) := by decide +kernel
theorem dX5_gaining_31 : decode cX5_gaining 31 = .ok (.iaload, 1) := by decide +kernel
theorem dX5_gaining_32 : decode cX5_gaining 32 = .ok (.istore 6, 2) := by decide +kernel
theorem dX5_gaining_34 : decode cX5_gaining 34 = .ok (.iload 6, 2) := by decide +kernel
theorem dX5_gaining_36 : decode cX5_gaining 36 = .ok (.istore 7, 2) := by decide +kernel
theorem dX5_gaining_38 : decode cX5_gaining 38 = .ok (.iload 7, 2) := by decide +kernel
theorem dX5_gaining_40 : decode cX5_gaining 40 = .ok (.ifCond .le 88, 3) := by decide +kernel
theorem dX5_gaining_43 : decode cX5_gaining 43 = .ok (.aload_n 0, 1) := by decide +kernel
theorem dX5_gaining_44 : decode cX5_gaining 44 = .ok (.getfield 7, 3) := by decide +kernel
theorem dX5_gaining_47 : decode cX5_gaining 47 = .ok (.iload_n 2, 1) := by decide +kernel
theorem dX5_gaining_48 : decode cX5_gaining 48 = .ok (.iconst 0, 1) := by decide +kernel
theorem dX5_gaining_49 : decode cX5_gaining 49 = .ok (.iload 5, 2) := by decide +kernel
theorem dX5_gaining_51 : decode cX5_gaining 51 = .ok (.invokestatic 49, 3) := by decide +kernel
theorem dX5_gaining_54 : decode cX5_gaining 54 = .ok (.iload 6, 2) := by decide +kernel
theorem dX5_gaining_56 : decode cX5_gaining 56 = .ok (.iload 7, 2) := by decide +kernel
theorem dX5_gaining_58 : decode cX5_gaining 58 = .ok (.isub, 1) := by decide +kernel
theorem dX5_gaining_59 : decode cX5_gaining 59 = .ok (.iastore, 1) := by decide +kernel
theorem dX5_gaining_60 : decode cX5_gaining 60 = .ok (.aload_n 0, 1) := by decide +kernel
theorem dX5_gaining_61 : decode cX5_gaining 61 = .ok (.iload_n 1, 1) := by decide +kernel
theorem dX5_gaining_62 : decode cX5_gaining 62 = .ok (.iload_n 2, 1) := by decide +kernel
theorem dX5_gaining_63 : decode cX5_gaining 63 = .ok (.invokevirtual 132, 3) := by decide +kernel
theorem dX5_gaining_66 : decode cX5_gaining 66 = .ok (.iload_n 3, 1) := by decide +kernel
theorem dX5_gaining_67 : decode cX5_gaining 67 = .ok (.if_icmp .le 7, 3) := by decide +kernel
theorem dX5_gaining_70 : decode cX5_gaining 70 = .ok (.iconst 1, 1) := by decide +kernel
theorem dX5_gaining_71 : decode cX5_gaining 71 = .ok (.goto 4, 3) := by decide +kernel
theorem dX5_gaining_74 : decode cX5_gaining 74 = .ok (.iconst 0, 1) := by decide +kernel
theorem dX5_gaining_75 : decode cX5_gaining 75 = .ok (.istore 8, 2) := by decide +kernel
theorem dX5_gaining_77 : decode cX5_gaining 77 = .ok (.iload 8, 2) := by decide +kernel
theorem dX5_gaining_79 : decode cX5_gaining 79 = .ok (.ifCond .eq 39, 3) := by decide +kernel
theorem dX5_gaining_82 : decode cX5_gaining 82 = .ok (.iload 4, 2) := by decide +kernel
theorem dX5_gaining_84 : decode cX5_gaining 84 = .ok (.ifCond .lt 23, 3) := by decide +kernel
theorem dX5_gaining_87 : decode cX5_gaining 87 = .ok (.iload 7, 2) := by decide +kernel
theorem dX5_gaining_89 : decode cX5_gaining 89 = .ok (.iload 4, 2) := by decide +kernel
theorem dX5_gaining_91 : decode cX5_gaining 91 = .ok (.bipush 100, 2) := by decide +kernel
theorem dX5_gaining_93 : decode cX5_gaining 93 = .ok (.irem, 1) := by decide +kernel
theorem dX5_gaining_94 : decode cX5_gaining 94 = .ok (.if_icmp .lt 13, 3) := by decide +kernel
theorem dX5_gaining_97 : decode cX5_gaining 97 = .ok (.iload 4, 2) := by decide +kernel
theorem dX5_gaining_99 : decode cX5_gaining 99 = .ok (.bipush 100, 2) := by decide +kernel
theorem dX5_gaining_101 : decode cX5_gaining 101 = .ok (.idiv, 1) := by decide +kernel
theorem dX5_gaining_102 : decode cX5_gaining 102 = .ok (.iload 5, 2) := by decide +kernel
theorem dX5_gaining_104 : decode cX5_gaining 104 = .ok (.if_icmp .ne 14, 3) := by decide +kernel
theorem dX5_gaining_107 : decode cX5_gaining 107 = .ok (.bipush 100, 2) := by decide +kernel
theorem dX5_gaining_109 : decode cX5_gaining 109 = .ok (.iload 5, 2) := by decide +kernel
theorem dX5_gaining_111 : decode cX5_gaining 111 = .ok (.imul, 1) := by decide +kernel
theorem dX5_gaining_112 : decode cX5_gaining 112 = .ok (.iload 7, 2) := by decide +kernel
theorem dX5_gaining_114 : decode cX5_gaining 114 = .ok (.iadd, 1) := by decide +kernel
theorem dX5_gaining_115 : decode cX5_gaining 115 = .ok (.goto 5, 3) := by decide +kernel
theorem dX5_gaining_118 : decode cX5_gaining 118 = .ok (.iload 4, 2) := by decide +kernel
theorem dX5_gaining_120 : decode cX5_gaining 120 = .ok (.istore 4, 2) := by decide +kernel
theorem dX5_gaining_122 : decode cX5_gaining 122 = .ok (.iinc 7 (-1), 3) := by decide +kernel
theorem dX5_gaining_125 : decode cX5_gaining 125 = .ok (.goto (-87), 3) := by decide +kernel
theorem dX5_gaining_128 : decode cX5_gaining 128 = .ok (.aload_n 0, 1) := by decide +kernel
theorem dX5_gaining_129 : decode cX5_gaining 129 = .ok (.getfield 7, 3) := by decide +kernel
theorem dX5_gaining_132 : decode cX5_gaining 132 = .ok (.iload_n 2, 1) := by decide +kernel
theorem dX5_gaining_133 : decode cX5_gaining 133 = .ok (.iconst 0, 1) := by decide +kernel
theorem dX5_gaining_134 : decode cX5_gaining 134 = .ok (.iload 5, 2) := by decide +kernel
theorem dX5_gaining_136 : decode cX5_gaining 136 = .ok (.invokestatic 49, 3) := by decide +kernel
theorem dX5_gaining_139 : decode cX5_gaining 139 = .ok (.iload 6, 2) := by decide +kernel
theorem dX5_gaining_141 : decode cX5_gaining 141 = .ok (.iastore, 1) := by decide +kernel
theorem dX5_gaining_142 : decode cX5_gaining 142 = .ok (.iinc 5 1, 3) := by decide +kernel
theorem dX5_gaining_145 : decode cX5_gaining 145 = .ok (.goto (-132), 3) := by decide +kernel
theorem dX5_gaining_148 : decode cX5_gaining 148 = .ok (.iload 4, 2) := by decide +kernel
theorem dX5_gaining_150 : decode cX5_gaining 150 = .ok (.ireturn, 1) := by decide +kernel
theorem dX5_gains_0 : decode cX5_gains 0 = .ok (.aload_n 0, 1) := by decide +kernel
theorem dX5_gains_1 : decode cX5_gains 1 = .ok (.iload_n 1, 1) := by decide +kernel
theorem dX5_gains_2 : decode cX5_gains 2 = .ok (.invokevirtual 114, 3) := by decide +kernel
theorem dX5_gains_5 : decode cX5_gains 5 = .ok (.ifCond .ne 10, 3) := by decide +kernel
theorem dX5_gains_8 : decode cX5_gains 8 = .ok (.aload_n 0, 1) := by decide +kernel
theorem dX5_gains_9 : decode cX5_gains 9 = .ok (.ldc 40, 2) := by decide +kernel
theorem dX5_gains_11 : decode cX5_gains 11 = .ok (.invokevirtual 59, 3) := by decide +kernel
theorem dX5_gains_14 : decode cX5_gains 14 = .ok (.ireturn, 1) := by decide +kernel
theorem dX5_gains_15 : decode cX5_gains 15 = .ok (.iconst 0, 1) := by decide +kernel
theorem dX5_gains_16 : decode cX5_gains 16 = .ok (.istore_n 2, 1) := by decide +kernel
theorem dX5_gains_17 : decode cX5_gains 17 = .ok (.iconst 0, 1) := by decide +kernel
theorem dX5_gains_18 : decode cX5_gains 18 = .ok (.istore_n 3, 1) := by decide +kernel
theorem dX5_gains_19 : decode cX5_gains 19 = .ok (.iload_n 3, 1) := by decide +kernel
theorem dX5_gains_20 : decode cX5_gains 20 = .ok (.aload_n 0, 1) := by decide +kernel
theorem dX5_gains_21 : decode cX5_gains 21 = .ok (.getfield 7, 3) := by decide +kernel
theorem dX5_gains_24 : decode cX5_gains 24 = .ok (.bipush 17, 2) := by decide +kernel
theorem dX5_gains_26 : decode cX5_gains 26 = .ok (.iaload, 1) := by decide +kernel
theorem dX5_gains_27 : decode cX5_gains 27 = .ok (.if_icmp .ge 28, 3) := by decide +kernel
theorem dX5_gains_30 : decode cX5_gains 30 = .ok (.iload_n 2, 1) := by decide +kernel
theorem dX5_gains_31 : decode cX5_gains 31 = .ok (.aload_n 0, 1) := by decide +kernel
theorem dX5_gains_32 : decode cX5_gains 32 = .ok (.iload_n 1, 1) := by decide +kernel
theorem dX5_gains_33 : decode cX5_gains 33 = .ok (.iload_n 3, 1) := by decide +kernel
theorem dX5_gains_34 : decode cX5_gains 34 = .ok (.invokevirtual 142, 3) := by decide +kernel
theorem dX5_gains_37 : decode cX5_gains 37 = .ok (.ifCond .ge 7, 3) := by decide +kernel
theorem dX5_gains_40 : decode cX5_gains 40 = .ok (.iconst 0, 1) := by decide +kernel
theorem dX5_gains_41 : decode cX5_gains 41 = .ok (.goto 6, 3) := by decide +kernel
theorem dX5_gains_44 : decode cX5_gains 44 = .ok (.iconst 1, 1) := by decide +kernel
theorem dX5_gains_45 : decode cX5_gains 45 = .ok (.iload_n 3, 1) := by decide +kernel
theorem dX5_gains_46 : decode cX5_gains 46 = .ok (.ishl, 1) := by decide +kernel
theorem dX5_gains_47 : decode cX5_gains 47 = .ok (.ior, 1) := by decide +kernel
theorem dX5_gains_48 : decode cX5_gains 48 = .ok (.istore_n 2, 1) := by decide +kernel
theorem dX5_gains_49 : decode cX5_gains 49 = .ok (.iinc 3 1, 3) := by decide +kernel
theorem dX5_gains_52 : decode cX5_gains 52 = .ok (.goto (-33), 3) := by decide +kernel
theorem dX5_gains_55 : decode cX5_gains 55 = .ok (.iload_n 2, 1) := by decide +kernel
theorem dX5_gains_56 : decode cX5_gains 56 = .ok (.ireturn, 1) := by decide +kernel
theorem dX5_gainsBy_0 : decode cX5_gainsBy 0 = .ok (.aload_n 0, 1) := by decide +kernel
theorem dX5_gainsBy_1 : decode cX5_gainsBy 1 = .ok (.iload_n 1, 1) := by decide +kernel
theorem dX5_gainsBy_2 : decode cX5_gainsBy 2 = .ok (.invokevirtual 114, 3) := by decide +kernel
theorem dX5_gainsBy_5 : decode cX5_gainsBy 5 = .ok (.ifCond .eq 11, 3) := by decide +kernel
theorem dX5_gainsBy_8 : decode cX5_gainsBy 8 = .ok (.aload_n 0, 1) := by decide +kernel
theorem dX5_gainsBy_9 : decode cX5_gainsBy 9 = .ok (.iload_n 2, 1) := by decide +kernel
theorem dX5_gainsBy_10 : decode cX5_gainsBy 10 = .ok (.invokevirtual 75, 3) := by decide +kernel
theorem dX5_gainsBy_13 : decode cX5_gainsBy 13 = .ok (.ifCond .ne 10, 3) := by decide +kernel
theorem dX5_gainsBy_16 : decode cX5_gainsBy 16 = .ok (.aload_n 0, 1) := by decide +kernel
theorem dX5_gainsBy_17 : decode cX5_gainsBy 17 = .ok (.ldc 40, 2) := by decide +kernel
theorem dX5_gainsBy_19 : decode cX5_gainsBy 19 = .ok (.invokevirtual 59, 3) := by decide +kernel
theorem dX5_gainsBy_22 : decode cX5_gainsBy 22 = .ok (.ireturn, 1) := by decide +kernel
theorem dX5_gainsBy_23 : decode cX5_gainsBy 23 = .ok (.aload_n 0, 1) := by decide +kernel
theorem dX5_gainsBy_24 : decode cX5_gainsBy 24 = .ok (.iload_n 1, 1) := by decide +kernel
theorem dX5_gainsBy_25 : decode cX5_gainsBy 25 = .ok (.iload_n 2, 1) := by decide +kernel
theorem dX5_gainsBy_26 : decode cX5_gainsBy 26 = .ok (.invokevirtual 142, 3) := by decide +kernel
theorem dX5_gainsBy_29 : decode cX5_gainsBy 29 = .ok (.istore_n 3, 1) := by decide +kernel
theorem dX5_gainsBy_30 : decode cX5_gainsBy 30 = .ok (.iload_n 3, 1) := by decide +kernel
theorem dX5_gainsBy_31 : decode cX5_gainsBy 31 = .ok (.ifCond .ge 12, 3) := by decide +kernel
theorem dX5_gainsBy_34 : decode cX5_gainsBy 34 = .ok (.aload_n 0, 1) := by decide +kernel
theorem dX5_gainsBy_35 : decode cX5_gainsBy 35 = .ok (.ldc 89, 2) := by decide +kernel
theorem dX5_gainsBy_37 : decode cX5_gainsBy 37 = .ok (.invokevirtual 59, 3) := by decide +kernel
theorem dX5_gainsBy_40 : decode cX5_gainsBy 40 = .ok (.goto 4, 3) := by decide +kernel
theorem dX5_gainsBy_43 : decode cX5_gainsBy 43 = .ok (.iload_n 3, 1) := by decide +kernel
theorem dX5_gainsBy_44 : decode cX5_gainsBy 44 = .ok (.ireturn, 1) := by decide +kernel
theorem dX5_moves_0 : decode cX5_moves 0 = .ok (.aload_n 0, 1) := by decide +kernel
theorem dX5_moves_1 : decode cX5_moves 1 = .ok (.iload_n 1, 1) := by decide +kernel
theorem dX5_moves_2 : decode cX5_moves 2 = .ok (.invokevirtual 114, 3) := by decide +kernel
theorem dX5_moves_5 : decode cX5_moves 5 = .ok (.ifCond .eq 15, 3) := by decide +kernel
theorem dX5_moves_8 : decode cX5_moves 8 = .ok (.iload_n 2, 1) := by decide +kernel
theorem dX5_moves_9 : decode cX5_moves 9 = .ok (.i2l, 1) := by decide +kernel
theorem dX5_moves_10 : decode cX5_moves 10 = .ok (.lconst 0, 1) := by decide +kernel
theorem dX5_moves_11 : decode cX5_moves 11 = .ok (.ldc2_w 57, 3) := by decide +kernel
theorem dX5_moves_14 : decode cX5_moves 14 = .ok (.invokestatic 43, 3) := by decide +kernel
theorem dX5_moves_17 : decode cX5_moves 17 = .ok (.ifCond .ne 10, 3) := by decide +kernel
theorem dX5_moves_20 : decode cX5_moves 20 = .ok (.aload_n 0, 1) := by decide +kernel
theorem dX5_moves_21 : decode cX5_moves 21 = .ok (.ldc 40, 2) := by decide +kernel
theorem dX5_moves_23 : decode cX5_moves 23 = .ok (.invokevirtual 59, 3) := by decide +kernel
theorem dX5_moves_26 : decode cX5_moves 26 = .ok (.ireturn, 1) := by decide +kernel
theorem dX5_moves_27 : decode cX5_moves 27 = .ok (.aload_n 0, 1) := by decide +kernel
theorem dX5_moves_28 : decode cX5_moves 28 = .ok (.getfield 7, 3) := by decide +kernel
theorem dX5_moves_31 : decode cX5_moves 31 = .ok (.bipush 17, 2) := by decide +kernel
theorem dX5_moves_33 : decode cX5_moves 33 = .ok (.iaload, 1) := by decide +kernel
theorem dX5_moves_34 : decode cX5_moves 34 = .ok (.bipush 12, 2) := by decide +kernel
theorem dX5_moves_36 : decode cX5_moves 36 = .ok (.if_icmp .ne 10, 3) := by decide +kernel
theorem dX5_moves_39 : decode cX5_moves 39 = .ok (.aload_n 0, 1) := by decide +kernel
theorem dX5_moves_40 : decode cX5_moves 40 = .ok (.ldc 145, 2) := by decide +kernel
theorem dX5_moves_42 : decode cX5_moves 42 = .ok (.invokevirtual 59, 3) := by decide +kernel
theorem dX5_moves_45 : decode cX5_moves 45 = .ok (.ireturn, 1) := by decide +kernel
theorem dX5_moves_46 : decode cX5_moves 46 = .ok (.aload_n 0, 1) := by decide +kernel
theorem dX5_moves_47 : decode cX5_moves 47 = .ok (.iload_n 1, 1) := by decide +kernel
theorem dX5_moves_48 : decode cX5_moves 48 = .ok (.invokevirtual 135, 3) := by decide +kernel
theorem dX5_moves_51 : decode cX5_moves 51 = .ok (.aload_n 0, 1) := by decide +kernel
theorem dX5_moves_52 : decode cX5_moves 52 = .ok (.getfield 7, 3) := by decide +kernel
theorem dX5_moves_55 : decode cX5_moves 55 = .ok (.bipush 17, 2) := by decide +kernel
theorem dX5_moves_57 : decode cX5_moves 57 = .ok (.iaload, 1) := by decide +kernel
theorem dX5_moves_58 : decode cX5_moves 58 = .ok (.istore_n 3, 1) := by decide +kernel
theorem dX5_moves_59 : decode cX5_moves 59 = .ok (.aload_n 0, 1) := by decide +kernel
theorem dX5_moves_60 : decode cX5_moves 60 = .ok (.iconst 0, 1) := by decide +kernel
theorem dX5_moves_61 : decode cX5_moves 61 = .ok (.invokevirtual 72, 3) := by decide +kernel
theorem dX5_moves_64 : decode cX5_moves 64 = .ok (.istore 4, 2) := by decide +kernel
theorem dX5_moves_66 : decode cX5_moves 66 = .ok (.iconst 0, 1) := by decide +kernel
theorem dX5_moves_67 : decode cX5_moves 67 = .ok (.istore 5, 2) := by decide +kernel
theorem dX5_moves_69 : decode cX5_moves 69 = .ok (.iload 5, 2) := by decide +kernel
theorem dX5_moves_71 : decode cX5_moves 71 = .ok (.bipush 8, 2) := by decide +kernel
theorem dX5_moves_73 : decode cX5_moves 73 = .ok (.if_icmp .ge 67, 3) := by decide +kernel
theorem dX5_moves_76 : decode cX5_moves 76 = .ok (.iload_n 2, 1) := by decide +kernel
theorem dX5_moves_77 : decode cX5_moves 77 = .ok (.aload_n 0, 1) := by decide +kernel
theorem dX5_moves_78 : decode cX5_moves 78 = .ok (.getfield 7, 3) := by decide +kernel
theorem dX5_moves_81 : decode cX5_moves 81 = .ok (.iconst 0, 1) := by decide +kernel
theorem dX5_moves_82 : decode cX5_moves 82 = .ok (.iload 5, 2) := by decide +kernel
theorem dX5_moves_84 : decode cX5_moves 84 = .ok (.iadd, 1) := by decide +kernel
theorem dX5_moves_85 : decode cX5_moves 85 = .ok (.iaload, 1) := by decide +kernel
theorem dX5_moves_86 : decode cX5_moves 86 = .ok (.if_icmp .le 15, 3) := by decide +kernel
theorem dX5_moves_89 : decode cX5_moves 89 = .ok (.aload_n 0, 1) := by decide +kernel
theorem dX5_moves_90 : decode cX5_moves 90 = .ok (.getfield 7, 3) := by decide +kernel
theorem dX5_moves_93 : decode cX5_moves 93 = .ok (.iconst 0, 1) := by decide +kernel
theorem dX5_moves_94 : decode cX5_moves 94 = .ok (.iload 5, 2) := by decide +kernel
theorem dX5_moves_96 : decode cX5_moves 96 = .ok (.iadd, 1) := by decide +kernel
theorem dX5_moves_97 : decode cX5_moves 97 = .ok (.iaload, 1) := by decide +kernel
theorem dX5_moves_98 : decode cX5_moves 98 = .ok (.goto 4, 3) := by decide +kernel
theorem dX5_moves_101 : decode cX5_moves 101 = .ok (.iload_n 2, 1) := by decide +kernel
theorem dX5_moves_102 : decode cX5_moves 102 = .ok (.istore 6, 2) := by decide +kernel
theorem dX5_moves_104 : decode cX5_moves 104 = .ok (.aload_n 0, 1) := by decide +kernel
theorem dX5_moves_105 : decode cX5_moves 105 = .ok (.getfield 7, 3) := by decide +kernel
theorem dX5_moves_108 : decode cX5_moves 108 = .ok (.iload 4, 2) := by decide +kernel
theorem dX5_moves_110 : decode cX5_moves 110 = .ok (.iconst 0, 1) := by decide +kernel
theorem dX5_moves_111 : decode cX5_moves 111 = .ok (.iload 5, 2) := by decide +kernel
theorem dX5_moves_113 : decode cX5_moves 113 = .ok (.invokestatic 49, 3) := by decide +kernel
theorem dX5_moves_116 : decode cX5_moves 116 = .ok (.iload 6, 2) := by decide +kernel
theorem dX5_moves_118 : decode cX5_moves 118 = .ok (.iastore, 1) := by decide +kernel
theorem dX5_moves_119 : decode cX5_moves 119 = .ok (.aload_n 0, 1) := by decide +kernel
theorem dX5_moves_120 : decode cX5_moves 120 = .ok (.getfield 7, 3) := by decide +kernel
theorem dX5_moves_123 : decode cX5_moves 123 = .ok (.iload 4, 2) := by decide +kernel
theorem dX5_moves_125 : decode cX5_moves 125 = .ok (.iconst 1, 1) := by decide +kernel
theorem dX5_moves_126 : decode cX5_moves 126 = .ok (.iload 5, 2) := by decide +kernel
theorem dX5_moves_128 : decode cX5_moves 128 = .ok (.invokestatic 49, 3) := by decide +kernel
theorem dX5_moves_131 : decode cX5_moves 131 = .ok (.iload 6, 2) := by decide +kernel
theorem dX5_moves_133 : decode cX5_moves 133 = .ok (.iastore, 1) := by decide +kernel
theorem dX5_moves_134 : decode cX5_moves 134 = .ok (.iinc 5 1, 3) := by decide +kernel
theorem dX5_moves_137 : decode cX5_moves 137 = .ok (.goto (-68), 3) := by decide +kernel
theorem dX5_moves_140 : decode cX5_moves 140 = .ok (.iconst 0, 1) := by decide +kernel
theorem dX5_moves_141 : decode cX5_moves 141 = .ok (.istore 5, 2) := by decide +kernel
theorem dX5_moves_143 : decode cX5_moves 143 = .ok (.iconst 0, 1) := by decide +kernel
theorem dX5_moves_144 : decode cX5_moves 144 = .ok (.istore 6, 2) := by decide +kernel
theorem dX5_moves_146 : decode cX5_moves 146 = .ok (.iload 6, 2) := by decide +kernel
theorem dX5_moves_148 : decode cX5_moves 148 = .ok (.iload_n 3, 1) := by decide +kernel
theorem dX5_moves_149 : decode cX5_moves 149 = .ok (.if_icmp .ge 39, 3) := by decide +kernel
theorem dX5_moves_152 : decode cX5_moves 152 = .ok (.iload 5, 2) := by decide +kernel
theorem dX5_moves_154 : decode cX5_moves 154 = .ok (.aload_n 0, 1) := by decide +kernel
theorem dX5_moves_155 : decode cX5_moves 155 = .ok (.iload_n 1, 1) := by decide +kernel
theorem dX5_moves_156 : decode cX5_moves 156 = .ok (.iload 6, 2) := by decide +kernel
theorem dX5_moves_158 : decode cX5_moves 158 = .ok (.invokevirtual 132, 3) := by decide +kernel
theorem dX5_moves_161 : decode cX5_moves 161 = .ok (.aload_n 0, 1) := by decide +kernel
theorem dX5_moves_162 : decode cX5_moves 162 = .ok (.getfield 22, 3) := by decide +kernel
theorem dX5_moves_165 : decode cX5_moves 165 = .ok (.iload 6, 2) := by decide +kernel
theorem dX5_moves_167 : decode cX5_moves 167 = .ok (.iaload, 1) := by decide +kernel
theorem dX5_moves_168 : decode cX5_moves 168 = .ok (.if_icmp .ne 7, 3) := by decide +kernel
theorem dX5_moves_171 : decode cX5_moves 171 = .ok (.iconst 0, 1) := by decide +kernel
theorem dX5_moves_172 : decode cX5_moves 172 = .ok (.goto 7, 3) := by decide +kernel
theorem dX5_moves_175 : decode cX5_moves 175 = .ok (.iconst 1, 1) := by decide +kernel
theorem dX5_moves_176 : decode cX5_moves 176 = .ok (.iload 6, 2) := by decide +kernel
theorem dX5_moves_178 : decode cX5_moves 178 = .ok (.ishl, 1) := by decide +kernel
theorem dX5_moves_179 : decode cX5_moves 179 = .ok (.ior, 1) := by decide +kernel
theorem dX5_moves_180 : decode cX5_moves 180 = .ok (.istore 5, 2) := by decide +kernel
theorem dX5_moves_182 : decode cX5_moves 182 = .ok (.iinc 6 1, 3) := by decide +kernel
theorem dX5_moves_185 : decode cX5_moves 185 = .ok (.goto (-39), 3) := by decide +kernel
theorem dX5_moves_188 : decode cX5_moves 188 = .ok (.aload_n 0, 1) := by decide +kernel
theorem dX5_moves_189 : decode cX5_moves 189 = .ok (.getfield 7, 3) := by decide +kernel
theorem dX5_moves_192 : decode cX5_moves 192 = .ok (.bipush 17, 2) := by decide +kernel
theorem dX5_moves_194 : decode cX5_moves 194 = .ok (.dup2, 1) := by decide +kernel
theorem dX5_moves_195 : decode cX5_moves 195 = .ok (.iaload, 1) := by decide +kernel
theorem dX5_moves_196 : decode cX5_moves 196 = .ok (.iconst 1, 1) := by decide +kernel
theorem dX5_moves_197 : decode cX5_moves 197 = .ok (.isub, 1) := by decide +kernel
theorem dX5_moves_198 : decode cX5_moves 198 = .ok (.iastore, 1) := by decide +kernel
theorem dX5_moves_199 : decode cX5_moves 199 = .ok (.iload 5, 2) := by decide +kernel
theorem dX5_moves_201 : decode cX5_moves 201 = .ok (.ireturn, 1) := by decide +kernel
theorem dX5_without_0 : decode cX5_without 0 = .ok (.aload_n 0, 1) := by decide +kernel
theorem dX5_without_1 : decode cX5_without 1 = .ok (.iload_n 1, 1) := by decide +kernel
theorem dX5_without_2 : decode cX5_without 2 = .ok (.invokevirtual 114, 3) := by decide +kernel
theorem dX5_without_5 : decode cX5_without 5 = .ok (.ifCond .eq 10, 3) := by decide +kernel
theorem dX5_without_8 : decode cX5_without 8 = .ok (.iload_n 2, 1) := by decide +kernel
theorem dX5_without_9 : decode cX5_without 9 = .ok (.invokestatic 53, 3) := by decide +kernel
theorem dX5_without_12 : decode cX5_without 12 = .ok (.ifCond .ne 10, 3) := by decide +kernel
theorem dX5_without_15 : decode cX5_without 15 = .ok (.aload_n 0, 1) := by decide +kernel
theorem dX5_without_16 : decode cX5_without 16 = .ok (.ldc 40, 2) := by decide +kernel
theorem dX5_without_18 : decode cX5_without 18 = .ok (.invokevirtual 59, 3) := by decide +kernel
theorem dX5_without_21 : decode cX5_without 21 = .ok (.ireturn, 1) := by decide +kernel
theorem dX5_without_22 : decode cX5_without 22 = .ok (.aload_n 0, 1) := by decide +kernel
theorem dX5_without_23 : decode cX5_without 23 = .ok (.iload_n 1, 1) := by decide +kernel
theorem dX5_without_24 : decode cX5_without 24 = .ok (.invokevirtual 135, 3) := by decide +kernel
theorem dX5_without_27 : decode cX5_without 27 = .ok (.aload_n 0, 1) := by decide +kernel
theorem dX5_without_28 : decode cX5_without 28 = .ok (.invokevirtual 146, 3) := by decide +kernel
theorem dX5_without_31 : decode cX5_without 31 = .ok (.aload_n 0, 1) := by decide +kernel
theorem dX5_without_32 : decode cX5_without 32 = .ok (.iload_n 2, 1) := by decide +kernel
theorem dX5_without_33 : decode cX5_without 33 = .ok (.iconst 0, 1) := by decide +kernel
theorem dX5_without_34 : decode cX5_without 34 = .ok (.invokevirtual 63, 3) := by decide +kernel
theorem dX5_without_37 : decode cX5_without 37 = .ok (.iconst (-1), 1) := by decide +kernel
theorem dX5_without_38 : decode cX5_without 38 = .ok (.istore_n 3, 1) := by decide +kernel
theorem dX5_without_39 : decode cX5_without 39 = .ok (.iconst 0, 1) := by decide +kernel
theorem dX5_without_40 : decode cX5_without 40 = .ok (.istore 4, 2) := by decide +kernel
theorem dX5_without_42 : decode cX5_without 42 = .ok (.iconst 0, 1) := by decide +kernel
theorem dX5_without_43 : decode cX5_without 43 = .ok (.istore 5, 2) := by decide +kernel
theorem dX5_without_45 : decode cX5_without 45 = .ok (.iload 5, 2) := by decide +kernel
theorem dX5_without_47 : decode cX5_without 47 = .ok (.aload_n 0, 1) := by decide +kernel
theorem dX5_without_48 : decode cX5_without 48 = .ok (.getfield 7, 3) := by decide +kernel
theorem dX5_without_51 : decode cX5_without 51 = .ok (.bipush 17, 2) := by decide +kernel
theorem dX5_without_53 : decode cX5_without 53 = .ok (.iaload, 1) := by decide +kernel
theorem dX5_without_54 : decode cX5_without 54 = .ok (.if_icmp .ge 40, 3) := by decide +kernel
theorem dX5_without_57 : decode cX5_without 57 = .ok (.aload_n 0, 1) := by decide +kernel
theorem dX5_without_58 : decode cX5_without 58 = .ok (.iload_n 1, 1) := by decide +kernel
theorem dX5_without_59 : decode cX5_without 59 = .ok (.iload 5, 2) := by decide +kernel
theorem dX5_without_61 : decode cX5_without 61 = .ok (.invokevirtual 132, 3) := by decide +kernel
theorem dX5_without_64 : decode cX5_without 64 = .ok (.aload_n 0, 1) := by decide +kernel
theorem dX5_without_65 : decode cX5_without 65 = .ok (.getfield 22, 3) := by decide +kernel
theorem dX5_without_68 : decode cX5_without 68 = .ok (.iload 5, 2) := by decide +kernel
theorem dX5_without_70 : decode cX5_without 70 = .ok (.iaload, 1) := by decide +kernel
theorem dX5_without_71 : decode cX5_without 71 = .ok (.isub, 1) := by decide +kernel
theorem dX5_without_72 : decode cX5_without 72 = .ok (.istore 6, 2) := by decide +kernel
theorem dX5_without_74 : decode cX5_without 74 = .ok (.iload 6, 2) := by decide +kernel
theorem dX5_without_76 : decode cX5_without 76 = .ok (.iload 4, 2) := by decide +kernel
theorem dX5_without_78 : decode cX5_without 78 = .ok (.if_icmp .le 10, 3) := by decide +kernel
theorem dX5_without_81 : decode cX5_without 81 = .ok (.iload 5, 2) := by decide +kernel
theorem dX5_without_83 : decode cX5_without 83 = .ok (.istore_n 3, 1) := by decide +kernel
theorem dX5_without_84 : decode cX5_without 84 = .ok (.iload 6, 2) := by decide +kernel
theorem dX5_without_86 : decode cX5_without 86 = .ok (.istore 4, 2) := by decide +kernel
theorem dX5_without_88 : decode cX5_without 88 = .ok (.iinc 5 1, 3) := by decide +kernel
theorem dX5_without_91 : decode cX5_without 91 = .ok (.goto (-46), 3) := by decide +kernel
theorem dX5_without_94 : decode cX5_without 94 = .ok (.aload_n 0, 1) := by decide +kernel
theorem dX5_without_95 : decode cX5_without 95 = .ok (.invokevirtual 149, 3) := by decide +kernel
theorem dX5_without_98 : decode cX5_without 98 = .ok (.iload_n 3, 1) := by decide +kernel
theorem dX5_without_99 : decode cX5_without 99 = .ok (.ifCond .ge 12, 3) := by decide +kernel
theorem dX5_without_102 : decode cX5_without 102 = .ok (.aload_n 0, 1) := by decide +kernel
theorem dX5_without_103 : decode cX5_without 103 = .ok (.ldc 89, 2) := by decide +kernel
theorem dX5_without_105 : decode cX5_without 105 = .ok (.invokevirtual 59, 3) := by decide +kernel
theorem dX5_without_108 : decode cX5_without 108 = .ok (.goto 4, 3) := by decide +kernel
theorem dX5_without_111 : decode cX5_without 111 = .ok (.iload_n 3, 1) := by decide +kernel
theorem dX5_without_112 : decode cX5_without 112 = .ok (.ireturn, 1) := by decide +kernel
theorem dX5_passing_0 : decode cX5_passing 0 = .ok (.aload_n 0, 1) := by decide +kernel
theorem dX5_passing_1 : decode cX5_passing 1 = .ok (.iload_n 1, 1) := by decide +kernel
theorem dX5_passing_2 : decode cX5_passing 2 = .ok (.invokevirtual 135, 3) := by decide +kernel
theorem dX5_passing_5 : decode cX5_passing 5 = .ok (.iconst 0, 1) := by decide +kernel
theorem dX5_passing_6 : decode cX5_passing 6 = .ok (.istore_n 3, 1) := by decide +kernel
theorem dX5_passing_7 : decode cX5_passing 7 = .ok (.iconst 0, 1) := by decide +kernel
theorem dX5_passing_8 : decode cX5_passing 8 = .ok (.istore 4, 2) := by decide +kernel
theorem dX5_passing_10 : decode cX5_passing 10 = .ok (.iload 4, 2) := by decide +kernel
theorem dX5_passing_12 : decode cX5_passing 12 = .ok (.aload_n 0, 1) := by decide +kernel
theorem dX5_passing_13 : decode cX5_passing 13 = .ok (.getfield 7, 3) := by decide +kernel
theorem dX5_passing_16 : decode cX5_passing 16 = .ok (.bipush 17, 2) := by decide +kernel
theorem dX5_passing_18 : decode cX5_passing 18 = .ok (.iaload, 1) := by decide +kernel
theorem dX5_passing_19 : decode cX5_passing 19 = .ok (.if_icmp .ge 31, 3) := by decide +kernel
theorem dX5_passing_22 : decode cX5_passing 22 = .ok (.iload_n 3, 1) := by decide +kernel
theorem dX5_passing_23 : decode cX5_passing 23 = .ok (.aload_n 0, 1) := by decide +kernel
theorem dX5_passing_24 : decode cX5_passing 24 = .ok (.getfield 22, 3) := by decide +kernel
theorem dX5_passing_27 : decode cX5_passing 27 = .ok (.iload 4, 2) := by decide +kernel
theorem dX5_passing_29 : decode cX5_passing 29 = .ok (.iaload, 1) := by decide +kernel
theorem dX5_passing_30 : decode cX5_passing 30 = .ok (.iload_n 2, 1) := by decide +kernel
theorem dX5_passing_31 : decode cX5_passing 31 = .ok (.if_icmp .lt 10, 3) := by decide +kernel
theorem dX5_passing_34 : decode cX5_passing 34 = .ok (.iconst 1, 1) := by decide +kernel
theorem dX5_passing_35 : decode cX5_passing 35 = .ok (.iload 4, 2) := by decide +kernel
theorem dX5_passing_37 : decode cX5_passing 37 = .ok (.ishl, 1) := by decide +kernel
theorem dX5_passing_38 : decode cX5_passing 38 = .ok (.goto 4, 3) := by decide +kernel
theorem dX5_passing_41 : decode cX5_passing 41 = .ok (.iconst 0, 1) := by decide +kernel
theorem dX5_passing_42 : decode cX5_passing 42 = .ok (.ior, 1) := by decide +kernel
theorem dX5_passing_43 : decode cX5_passing 43 = .ok (.istore_n 3, 1) := by decide +kernel
theorem dX5_passing_44 : decode cX5_passing 44 = .ok (.iinc 4 1, 3) := by decide +kernel
theorem dX5_passing_47 : decode cX5_passing 47 = .ok (.goto (-37), 3) := by decide +kernel
theorem dX5_passing_50 : decode cX5_passing 50 = .ok (.iload_n 3, 1) := by decide +kernel
theorem dX5_passing_51 : decode cX5_passing 51 = .ok (.ireturn, 1) := by decide +kernel
theorem dX5_ones_0 : decode cX5_ones 0 = .ok (.iconst 0, 1) := by decide +kernel
theorem dX5_ones_1 : decode cX5_ones 1 = .ok (.istore_n 1, 1) := by decide +kernel
theorem dX5_ones_2 : decode cX5_ones 2 = .ok (.iload_n 0, 1) := by decide +kernel
theorem dX5_ones_3 : decode cX5_ones 3 = .ok (.istore_n 2, 1) := by decide +kernel
theorem dX5_ones_4 : decode cX5_ones 4 = .ok (.iload_n 2, 1) := by decide +kernel
theorem dX5_ones_5 : decode cX5_ones 5 = .ok (.ifCond .eq 15, 3) := by decide +kernel
theorem dX5_ones_8 : decode cX5_ones 8 = .ok (.iinc 1 1, 3) := by decide +kernel
theorem dX5_ones_11 : decode cX5_ones 11 = .ok (.iload_n 2, 1) := by decide +kernel
theorem dX5_ones_12 : decode cX5_ones 12 = .ok (.iload_n 2, 1) := by decide +kernel
theorem dX5_ones_13 : decode cX5_ones 13 = .ok (.iconst 1, 1) := by decide +kernel
theorem dX5_ones_14 : decode cX5_ones 14 = .ok (.isub, 1) := by decide +kernel
theorem dX5_ones_15 : decode cX5_ones 15 = .ok (.iand, 1) := by decide +kernel
theorem dX5_ones_16 : decode cX5_ones 16 = .ok (.istore_n 2, 1) := by decide +kernel
theorem dX5_ones_17 : decode cX5_ones 17 = .ok (.goto (-13), 3) := by decide +kernel
theorem dX5_ones_20 : decode cX5_ones 20 = .ok (.iload_n 1, 1) := by decide +kernel
theorem dX5_ones_21 : decode cX5_ones 21 = .ok (.ireturn, 1) := by decide +kernel
theorem dX5_pass_0 : decode cX5_pass 0 = .ok (.aload_n 0, 1) := by decide +kernel
theorem dX5_pass_1 : decode cX5_pass 1 = .ok (.iload_n 1, 1) := by decide +kernel
theorem dX5_pass_2 : decode cX5_pass 2 = .ok (.invokevirtual 114, 3) := by decide +kernel
theorem dX5_pass_5 : decode cX5_pass 5 = .ok (.ifCond .eq 19, 3) := by decide +kernel
theorem dX5_pass_8 : decode cX5_pass 8 = .ok (.iload_n 2, 1) := by decide +kernel
theorem dX5_pass_9 : decode cX5_pass 9 = .ok (.invokestatic 152, 3) := by decide +kernel
theorem dX5_pass_12 : decode cX5_pass 12 = .ok (.ifCond .eq 12, 3) := by decide +kernel
theorem dX5_pass_15 : decode cX5_pass 15 = .ok (.aload_n 0, 1) := by decide +kernel
theorem dX5_pass_16 : decode cX5_pass 16 = .ok (.iload_n 1, 1) := by decide +kernel
theorem dX5_pass_17 : decode cX5_pass 17 = .ok (.iload_n 2, 1) := by decide +kernel
theorem dX5_pass_18 : decode cX5_pass 18 = .ok (.invokevirtual 155, 3) := by decide +kernel
theorem dX5_pass_21 : decode cX5_pass 21 = .ok (.goto 9, 3) := by decide +kernel
theorem dX5_pass_24 : decode cX5_pass 24 = .ok (.aload_n 0, 1) := by decide +kernel
theorem dX5_pass_25 : decode cX5_pass 25 = .ok (.ldc 40, 2) := by decide +kernel
theorem dX5_pass_27 : decode cX5_pass 27 = .ok (.invokevirtual 59, 3) := by decide +kernel
theorem dX5_pass_30 : decode cX5_pass 30 = .ok (.ireturn, 1) := by decide +kernel
theorem dX5_line_0 : decode cX5_line 0 = .ok (.aload_n 0, 1) := by decide +kernel
theorem dX5_line_1 : decode cX5_line 1 = .ok (.iload_n 1, 1) := by decide +kernel
theorem dX5_line_2 : decode cX5_line 2 = .ok (.invokevirtual 114, 3) := by decide +kernel
theorem dX5_line_5 : decode cX5_line 5 = .ok (.ifCond .eq 15, 3) := by decide +kernel
theorem dX5_line_8 : decode cX5_line 8 = .ok (.iload_n 2, 1) := by decide +kernel
theorem dX5_line_9 : decode cX5_line 9 = .ok (.i2l, 1) := by decide +kernel
theorem dX5_line_10 : decode cX5_line 10 = .ok (.lconst 0, 1) := by decide +kernel
theorem dX5_line_11 : decode cX5_line 11 = .ok (.ldc2_w 158, 3) := by decide +kernel
theorem dX5_line_14 : decode cX5_line 14 = .ok (.invokestatic 43, 3) := by decide +kernel
theorem dX5_line_17 : decode cX5_line 17 = .ok (.ifCond .ne 10, 3) := by decide +kernel
theorem dX5_line_20 : decode cX5_line 20 = .ok (.aload_n 0, 1) := by decide +kernel
theorem dX5_line_21 : decode cX5_line 21 = .ok (.ldc 40, 2) := by decide +kernel
theorem dX5_line_23 : decode cX5_line 23 = .ok (.invokevirtual 59, 3) := by decide +kernel
theorem dX5_line_26 : decode cX5_line 26 = .ok (.ireturn, 1) := by decide +kernel
theorem dX5_line_27 : decode cX5_line 27 = .ok (.sipush 400, 3) := by decide +kernel
theorem dX5_line_30 : decode cX5_line 30 = .ok (.istore_n 3, 1) := by decide +kernel
theorem dX5_line_31 : decode cX5_line 31 = .ok (.iload_n 3, 1) := by decide +kernel
theorem dX5_line_32 : decode cX5_line 32 = .ok (.ifCond .lt 24, 3) := by decide +kernel
theorem dX5_line_35 : decode cX5_line 35 = .ok (.aload_n 0, 1) := by decide +kernel
theorem dX5_line_36 : decode cX5_line 36 = .ok (.iload_n 1, 1) := by decide +kernel
theorem dX5_line_37 : decode cX5_line 37 = .ok (.iload_n 3, 1) := by decide +kernel
theorem dX5_line_38 : decode cX5_line 38 = .ok (.invokevirtual 155, 3) := by decide +kernel
theorem dX5_line_41 : decode cX5_line 41 = .ok (.invokestatic 160, 3) := by decide +kernel
theorem dX5_line_44 : decode cX5_line 44 = .ok (.iload_n 2, 1) := by decide +kernel
theorem dX5_line_45 : decode cX5_line 45 = .ok (.if_icmp .lt 5, 3) := by decide +kernel
theorem dX5_line_48 : decode cX5_line 48 = .ok (.iload_n 3, 1) := by decide +kernel
theorem dX5_line_49 : decode cX5_line 49 = .ok (.ireturn, 1) := by decide +kernel
theorem dX5_line_50 : decode cX5_line 50 = .ok (.iinc 3 (-1), 3) := by decide +kernel
theorem dX5_line_53 : decode cX5_line 53 = .ok (.goto (-22), 3) := by decide +kernel
theorem dX5_line_56 : decode cX5_line 56 = .ok (.aload_n 0, 1) := by decide +kernel
theorem dX5_line_57 : decode cX5_line 57 = .ok (.ldc 89, 2) := by decide +kernel
theorem dX5_line_59 : decode cX5_line 59 = .ok (.invokevirtual 59, 3) := by decide +kernel
theorem dX5_line_62 : decode cX5_line 62 = .ok (.ireturn, 1) := by decide +kernel
theorem dX5_between_0 : decode cX5_between 0 = .ok (.aload_n 0, 1) := by decide +kernel
theorem dX5_between_1 : decode cX5_between 1 = .ok (.iload_n 1, 1) := by decide +kernel
theorem dX5_between_2 : decode cX5_between 2 = .ok (.invokevirtual 135, 3) := by decide +kernel
theorem dX5_between_5 : decode cX5_between 5 = .ok (.iconst 0, 1) := by decide +kernel
theorem dX5_between_6 : decode cX5_between 6 = .ok (.istore 4, 2) := by decide +kernel
theorem dX5_between_8 : decode cX5_between 8 = .ok (.iconst 0, 1) := by decide +kernel
theorem dX5_between_9 : decode cX5_between 9 = .ok (.istore 5, 2) := by decide +kernel
theorem dX5_between_11 : decode cX5_between 11 = .ok (.iload 5, 2) := by decide +kernel
theorem dX5_between_13 : decode cX5_between 13 = .ok (.aload_n 0, 1) := by decide +kernel
theorem dX5_between_14 : decode cX5_between 14 = .ok (.getfield 7, 3) := by decide +kernel
theorem dX5_between_17 : decode cX5_between 17 = .ok (.bipush 17, 2) := by decide +kernel
theorem dX5_between_19 : decode cX5_between 19 = .ok (.iaload, 1) := by decide +kernel
theorem dX5_between_20 : decode cX5_between 20 = .ok (.if_icmp .ge 37, 3) := by decide +kernel
theorem dX5_between_23 : decode cX5_between 23 = .ok (.iload 4, 2) := by decide +kernel
theorem dX5_between_25 : decode cX5_between 25 = .ok (.aload_n 0, 1) := by decide +kernel
theorem dX5_between_26 : decode cX5_between 26 = .ok (.getfield 22, 3) := by decide +kernel
theorem dX5_between_29 : decode cX5_between 29 = .ok (.iload 5, 2) := by decide +kernel
theorem dX5_between_31 : decode cX5_between 31 = .ok (.iaload, 1) := by decide +kernel
theorem dX5_between_32 : decode cX5_between 32 = .ok (.i2l, 1) := by decide +kernel
theorem dX5_between_33 : decode cX5_between 33 = .ok (.iload_n 2, 1) := by decide +kernel
theorem dX5_between_34 : decode cX5_between 34 = .ok (.i2l, 1) := by decide +kernel
theorem dX5_between_35 : decode cX5_between 35 = .ok (.iload_n 3, 1) := by decide +kernel
theorem dX5_between_36 : decode cX5_between 36 = .ok (.i2l, 1) := by decide +kernel
theorem dX5_between_37 : decode cX5_between 37 = .ok (.invokestatic 43, 3) := by decide +kernel
theorem dX5_between_40 : decode cX5_between 40 = .ok (.ifCond .eq 7, 3) := by decide +kernel
theorem dX5_between_43 : decode cX5_between 43 = .ok (.iconst 1, 1) := by decide +kernel
theorem dX5_between_44 : decode cX5_between 44 = .ok (.goto 4, 3) := by decide +kernel
theorem dX5_between_47 : decode cX5_between 47 = .ok (.iconst 0, 1) := by decide +kernel
theorem dX5_between_48 : decode cX5_between 48 = .ok (.iadd, 1) := by decide +kernel
theorem dX5_between_49 : decode cX5_between 49 = .ok (.istore 4, 2) := by decide +kernel
theorem dX5_between_51 : decode cX5_between 51 = .ok (.iinc 5 1, 3) := by decide +kernel
theorem dX5_between_54 : decode cX5_between 54 = .ok (.goto (-43), 3) := by decide +kernel
theorem dX5_between_57 : decode cX5_between 57 = .ok (.iload 4, 2) := by decide +kernel
theorem dX5_between_59 : decode cX5_between 59 = .ok (.ireturn, 1) := by decide +kernel
theorem dX5_heap_0 : decode cX5_heap 0 = .ok (.aload_n 0, 1) := by decide +kernel
theorem dX5_heap_1 : decode cX5_heap 1 = .ok (.iload_n 1, 1) := by decide +kernel
theorem dX5_heap_2 : decode cX5_heap 2 = .ok (.invokevirtual 114, 3) := by decide +kernel
theorem dX5_heap_5 : decode cX5_heap 5 = .ok (.ifCond .eq 10, 3) := by decide +kernel
theorem dX5_heap_8 : decode cX5_heap 8 = .ok (.iload_n 2, 1) := by decide +kernel
theorem dX5_heap_9 : decode cX5_heap 9 = .ok (.invokestatic 152, 3) := by decide +kernel
theorem dX5_heap_12 : decode cX5_heap 12 = .ok (.ifCond .ne 10, 3) := by decide +kernel
theorem dX5_heap_15 : decode cX5_heap 15 = .ok (.aload_n 0, 1) := by decide +kernel
theorem dX5_heap_16 : decode cX5_heap 16 = .ok (.ldc 40, 2) := by decide +kernel
theorem dX5_heap_18 : decode cX5_heap 18 = .ok (.invokevirtual 59, 3) := by decide +kernel
theorem dX5_heap_21 : decode cX5_heap 21 = .ok (.ireturn, 1) := by decide +kernel
theorem dX5_heap_22 : decode cX5_heap 22 = .ok (.aload_n 0, 1) := by decide +kernel
theorem dX5_heap_23 : decode cX5_heap 23 = .ok (.iload_n 1, 1) := by decide +kernel
theorem dX5_heap_24 : decode cX5_heap 24 = .ok (.iload_n 2, 1) := by decide +kernel
theorem dX5_heap_25 : decode cX5_heap 25 = .ok (.iload_n 2, 1) := by decide +kernel
theorem dX5_heap_26 : decode cX5_heap 26 = .ok (.iconst 2, 1) := by decide +kernel
theorem dX5_heap_27 : decode cX5_heap 27 = .ok (.iadd, 1) := by decide +kernel
theorem dX5_heap_28 : decode cX5_heap 28 = .ok (.invokevirtual 163, 3) := by decide +kernel
theorem dX5_heap_31 : decode cX5_heap 31 = .ok (.aload_n 0, 1) := by decide +kernel
theorem dX5_heap_32 : decode cX5_heap 32 = .ok (.iload_n 1, 1) := by decide +kernel
theorem dX5_heap_33 : decode cX5_heap 33 = .ok (.iload_n 2, 1) := by decide +kernel
theorem dX5_heap_34 : decode cX5_heap 34 = .ok (.iconst 3, 1) := by decide +kernel
theorem dX5_heap_35 : decode cX5_heap 35 = .ok (.isub, 1) := by decide +kernel
theorem dX5_heap_36 : decode cX5_heap 36 = .ok (.iload_n 2, 1) := by decide +kernel
theorem dX5_heap_37 : decode cX5_heap 37 = .ok (.iconst 1, 1) := by decide +kernel
theorem dX5_heap_38 : decode cX5_heap 38 = .ok (.isub, 1) := by decide +kernel
theorem dX5_heap_39 : decode cX5_heap 39 = .ok (.invokevirtual 163, 3) := by decide +kernel
theorem dX5_heap_42 : decode cX5_heap 42 = .ok (.isub, 1) := by decide +kernel
theorem dX5_heap_43 : decode cX5_heap 43 = .ok (.ireturn, 1) := by decide +kernel
theorem dX5_kindest_0 : decode cX5_kindest 0 = .ok (.iload_n 1, 1) := by decide +kernel
theorem dX5_kindest_1 : decode cX5_kindest 1 = .ok (.invokestatic 152, 3) := by decide +kernel
theorem dX5_kindest_4 : decode cX5_kindest 4 = .ok (.ifCond .ne 10, 3) := by decide +kernel
theorem dX5_kindest_7 : decode cX5_kindest 7 = .ok (.aload_n 0, 1) := by decide +kernel
theorem dX5_kindest_8 : decode cX5_kindest 8 = .ok (.ldc 40, 2) := by decide +kernel
theorem dX5_kindest_10 : decode cX5_kindest 10 = .ok (.invokevirtual 59, 3) := by decide +kernel
theorem dX5_kindest_13 : decode cX5_kindest 13 = .ok (.ireturn, 1) := by decide +kernel
theorem dX5_kindest_14 : decode cX5_kindest 14 = .ok (.iconst (-1), 1) := by decide +kernel
theorem dX5_kindest_15 : decode cX5_kindest 15 = .ok (.istore_n 2, 1) := by decide +kernel
theorem dX5_kindest_16 : decode cX5_kindest 16 = .ok (.iconst (-1), 1) := by decide +kernel
theorem dX5_kindest_17 : decode cX5_kindest 17 = .ok (.istore_n 3, 1) := by decide +kernel
theorem dX5_kindest_18 : decode cX5_kindest 18 = .ok (.iconst 0, 1) := by decide +kernel
theorem dX5_kindest_19 : decode cX5_kindest 19 = .ok (.istore 4, 2) := by decide +kernel
theorem dX5_kindest_21 : decode cX5_kindest 21 = .ok (.iload 4, 2) := by decide +kernel
theorem dX5_kindest_23 : decode cX5_kindest 23 = .ok (.aload_n 0, 1) := by decide +kernel
theorem dX5_kindest_24 : decode cX5_kindest 24 = .ok (.getfield 7, 3) := by decide +kernel
theorem dX5_kindest_27 : decode cX5_kindest 27 = .ok (.bipush 18, 2) := by decide +kernel
theorem dX5_kindest_29 : decode cX5_kindest 29 = .ok (.iaload, 1) := by decide +kernel
theorem dX5_kindest_30 : decode cX5_kindest 30 = .ok (.if_icmp .ge 33, 3) := by decide +kernel
theorem dX5_kindest_33 : decode cX5_kindest 33 = .ok (.aload_n 0, 1) := by decide +kernel
theorem dX5_kindest_34 : decode cX5_kindest 34 = .ok (.iload 4, 2) := by decide +kernel
theorem dX5_kindest_36 : decode cX5_kindest 36 = .ok (.iload_n 1, 1) := by decide +kernel
theorem dX5_kindest_37 : decode cX5_kindest 37 = .ok (.invokevirtual 155, 3) := by decide +kernel
theorem dX5_kindest_40 : decode cX5_kindest 40 = .ok (.invokestatic 160, 3) := by decide +kernel
theorem dX5_kindest_43 : decode cX5_kindest 43 = .ok (.istore 5, 2) := by decide +kernel
theorem dX5_kindest_45 : decode cX5_kindest 45 = .ok (.iload 5, 2) := by decide +kernel
theorem dX5_kindest_47 : decode cX5_kindest 47 = .ok (.iload_n 3, 1) := by decide +kernel
theorem dX5_kindest_48 : decode cX5_kindest 48 = .ok (.if_icmp .le 9, 3) := by decide +kernel
theorem dX5_kindest_51 : decode cX5_kindest 51 = .ok (.iload 4, 2) := by decide +kernel
theorem dX5_kindest_53 : decode cX5_kindest 53 = .ok (.istore_n 2, 1) := by decide +kernel
theorem dX5_kindest_54 : decode cX5_kindest 54 = .ok (.iload 5, 2) := by decide +kernel
theorem dX5_kindest_56 : decode cX5_kindest 56 = .ok (.istore_n 3, 1) := by decide +kernel
theorem dX5_kindest_57 : decode cX5_kindest 57 = .ok (.iinc 4 1, 3) := by decide +kernel
theorem dX5_kindest_60 : decode cX5_kindest 60 = .ok (.goto (-39), 3) := by decide +kernel
theorem dX5_kindest_63 : decode cX5_kindest 63 = .ok (.iload_n 2, 1) := by decide +kernel
theorem dX5_kindest_64 : decode cX5_kindest 64 = .ok (.ifCond .ge 12, 3) := by decide +kernel
theorem dX5_kindest_67 : decode cX5_kindest 67 = .ok (.aload_n 0, 1) := by decide +kernel
theorem dX5_kindest_68 : decode cX5_kindest 68 = .ok (.ldc 89, 2) := by decide +kernel
theorem dX5_kindest_70 : decode cX5_kindest 70 = .ok (.invokevirtual 59, 3) := by decide +kernel
theorem dX5_kindest_73 : decode cX5_kindest 73 = .ok (.goto 4, 3) := by decide +kernel
theorem dX5_kindest_76 : decode cX5_kindest 76 = .ok (.iload_n 2, 1) := by decide +kernel
theorem dX5_kindest_77 : decode cX5_kindest 77 = .ok (.ireturn, 1) := by decide +kernel
theorem dX5_byFor_0 : decode cX5_byFor 0 = .ok (.aload_n 0, 1) := by decide +kernel
theorem dX5_byFor_1 : decode cX5_byFor 1 = .ok (.iload_n 1, 1) := by decide +kernel
theorem dX5_byFor_2 : decode cX5_byFor 2 = .ok (.invokevirtual 114, 3) := by decide +kernel
theorem dX5_byFor_5 : decode cX5_byFor 5 = .ok (.ifCond .eq 10, 3) := by decide +kernel
theorem dX5_byFor_8 : decode cX5_byFor 8 = .ok (.iload_n 2, 1) := by decide +kernel
theorem dX5_byFor_9 : decode cX5_byFor 9 = .ok (.invokestatic 152, 3) := by decide +kernel
theorem dX5_byFor_12 : decode cX5_byFor 12 = .ok (.ifCond .ne 10, 3) := by decide +kernel
theorem dX5_byFor_15 : decode cX5_byFor 15 = .ok (.aload_n 0, 1) := by decide +kernel
theorem dX5_byFor_16 : decode cX5_byFor 16 = .ok (.ldc 40, 2) := by decide +kernel
theorem dX5_byFor_18 : decode cX5_byFor 18 = .ok (.invokevirtual 59, 3) := by decide +kernel
theorem dX5_byFor_21 : decode cX5_byFor 21 = .ok (.ireturn, 1) := by decide +kernel
theorem dX5_byFor_22 : decode cX5_byFor 22 = .ok (.aload_n 0, 1) := by decide +kernel
theorem dX5_byFor_23 : decode cX5_byFor 23 = .ok (.getfield 7, 3) := by decide +kernel
theorem dX5_byFor_26 : decode cX5_byFor 26 = .ok (.sipush 223, 3) := by decide +kernel
theorem dX5_byFor_29 : decode cX5_byFor 29 = .ok (.iconst 2, 1) := by decide +kernel
theorem dX5_byFor_30 : decode cX5_byFor 30 = .ok (.iload_n 1, 1) := by decide +kernel
theorem dX5_byFor_31 : decode cX5_byFor 31 = .ok (.imul, 1) := by decide +kernel
theorem dX5_byFor_32 : decode cX5_byFor 32 = .ok (.iadd, 1) := by decide +kernel
theorem dX5_byFor_33 : decode cX5_byFor 33 = .ok (.iconst 1, 1) := by decide +kernel
theorem dX5_byFor_34 : decode cX5_byFor 34 = .ok (.iadd, 1) := by decide +kernel
theorem dX5_byFor_35 : decode cX5_byFor 35 = .ok (.iaload, 1) := by decide +kernel
theorem dX5_byFor_36 : decode cX5_byFor 36 = .ok (.istore_n 3, 1) := by decide +kernel
theorem dX5_byFor_37 : decode cX5_byFor 37 = .ok (.iconst (-1), 1) := by decide +kernel
theorem dX5_byFor_38 : decode cX5_byFor 38 = .ok (.istore 4, 2) := by decide +kernel
theorem dX5_byFor_40 : decode cX5_byFor 40 = .ok (.bipush 100, 2) := by decide +kernel
theorem dX5_byFor_42 : decode cX5_byFor 42 = .ok (.istore 5, 2) := by decide +kernel
theorem dX5_byFor_44 : decode cX5_byFor 44 = .ok (.iload 5, 2) := by decide +kernel
theorem dX5_byFor_46 : decode cX5_byFor 46 = .ok (.ifCond .lt 53, 3) := by decide +kernel
theorem dX5_byFor_49 : decode cX5_byFor 49 = .ok (.aload_n 0, 1) := by decide +kernel
theorem dX5_byFor_50 : decode cX5_byFor 50 = .ok (.getfield 7, 3) := by decide +kernel
theorem dX5_byFor_53 : decode cX5_byFor 53 = .ok (.sipush 223, 3) := by decide +kernel
theorem dX5_byFor_56 : decode cX5_byFor 56 = .ok (.iconst 2, 1) := by decide +kernel
theorem dX5_byFor_57 : decode cX5_byFor 57 = .ok (.iload_n 1, 1) := by decide +kernel
theorem dX5_byFor_58 : decode cX5_byFor 58 = .ok (.imul, 1) := by decide +kernel
theorem dX5_byFor_59 : decode cX5_byFor 59 = .ok (.iadd, 1) := by decide +kernel
theorem dX5_byFor_60 : decode cX5_byFor 60 = .ok (.iconst 1, 1) := by decide +kernel
theorem dX5_byFor_61 : decode cX5_byFor 61 = .ok (.iadd, 1) := by decide +kernel
theorem dX5_byFor_62 : decode cX5_byFor 62 = .ok (.iload 5, 2) := by decide +kernel
theorem dX5_byFor_64 : decode cX5_byFor 64 = .ok (.iastore, 1) := by decide +kernel
theorem dX5_byFor_65 : decode cX5_byFor 65 = .ok (.aload_n 0, 1) := by decide +kernel
theorem dX5_byFor_66 : decode cX5_byFor 66 = .ok (.iload_n 1, 1) := by decide +kernel
theorem dX5_byFor_67 : decode cX5_byFor 67 = .ok (.iload_n 2, 1) := by decide +kernel
theorem dX5_byFor_68 : decode cX5_byFor 68 = .ok (.invokevirtual 155, 3) := by decide +kernel
theorem dX5_byFor_71 : decode cX5_byFor 71 = .ok (.invokestatic 160, 3) := by decide +kernel
theorem dX5_byFor_74 : decode cX5_byFor 74 = .ok (.aload_n 0, 1) := by decide +kernel
theorem dX5_byFor_75 : decode cX5_byFor 75 = .ok (.getfield 7, 3) := by decide +kernel
theorem dX5_byFor_78 : decode cX5_byFor 78 = .ok (.bipush 17, 2) := by decide +kernel
theorem dX5_byFor_80 : decode cX5_byFor 80 = .ok (.iaload, 1) := by decide +kernel
theorem dX5_byFor_81 : decode cX5_byFor 81 = .ok (.if_icmp .ne 8, 3) := by decide +kernel
theorem dX5_byFor_84 : decode cX5_byFor 84 = .ok (.iload 5, 2) := by decide +kernel
theorem dX5_byFor_86 : decode cX5_byFor 86 = .ok (.goto 5, 3) := by decide +kernel
theorem dX5_byFor_89 : decode cX5_byFor 89 = .ok (.iload 4, 2) := by decide +kernel
theorem dX5_byFor_91 : decode cX5_byFor 91 = .ok (.istore 4, 2) := by decide +kernel
theorem dX5_byFor_93 : decode cX5_byFor 93 = .ok (.iinc 5 (-1), 3) := by decide +kernel
theorem dX5_byFor_96 : decode cX5_byFor 96 = .ok (.goto (-52), 3) := by decide +kernel
theorem dX5_byFor_99 : decode cX5_byFor 99 = .ok (.aload_n 0, 1) := by decide +kernel
theorem dX5_byFor_100 : decode cX5_byFor 100 = .ok (.getfield 7, 3) := by decide +kernel
theorem dX5_byFor_103 : decode cX5_byFor 103 = .ok (.sipush 223, 3) := by decide +kernel
theorem dX5_byFor_106 : decode cX5_byFor 106 = .ok (.iconst 2, 1) := by decide +kernel
theorem dX5_byFor_107 : decode cX5_byFor 107 = .ok (.iload_n 1, 1) := by decide +kernel
theorem dX5_byFor_108 : decode cX5_byFor 108 = .ok (.imul, 1) := by decide +kernel
theorem dX5_byFor_109 : decode cX5_byFor 109 = .ok (.iadd, 1) := by decide +kernel
theorem dX5_byFor_110 : decode cX5_byFor 110 = .ok (.iconst 1, 1) := by decide +kernel
theorem dX5_byFor_111 : decode cX5_byFor 111 = .ok (.iadd, 1) := by decide +kernel
theorem dX5_byFor_112 : decode cX5_byFor 112 = .ok (.iload_n 3, 1) := by decide +kernel
theorem dX5_byFor_113 : decode cX5_byFor 113 = .ok (.iastore, 1) := by decide +kernel
theorem dX5_byFor_114 : decode cX5_byFor 114 = .ok (.iload 4, 2) := by decide +kernel
theorem dX5_byFor_116 : decode cX5_byFor 116 = .ok (.ifCond .ge 12, 3) := by decide +kernel
theorem dX5_byFor_119 : decode cX5_byFor 119 = .ok (.aload_n 0, 1) := by decide +kernel
theorem dX5_byFor_120 : decode cX5_byFor 120 = .ok (.ldc 89, 2) := by decide +kernel
theorem dX5_byFor_122 : decode cX5_byFor 122 = .ok (.invokevirtual 59, 3) := by decide +kernel
theorem dX5_byFor_125 : decode cX5_byFor 125 = .ok (.goto 5, 3) := by decide +kernel
theorem dX5_byFor_128 : decode cX5_byFor 128 = .ok (.iload 4, 2) := by decide +kernel
theorem dX5_byFor_130 : decode cX5_byFor 130 = .ok (.ireturn, 1) := by decide +kernel
