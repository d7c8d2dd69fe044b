theorem dX0_init_0 : decode cX0_init 0 = .ok (.aload_n 0, 1) := by decide +kernel
theorem dX0_init_1 : decode cX0_init 1 = .ok (.invokespecial 3, 3) := by decide +kernel
theorem dX0_init_4 : decode cX0_init 4 = .ok (.aload_n 0, 1) := by decide +kernel
theorem dX0_init_5 : decode cX0_init 5 = .ok (.bipush 8, 2) := by decide +kernel
theorem dX0_init_7 : decode cX0_init 7 = .ok (.newarray .int, 2) := by decide +kernel
theorem dX0_init_9 : decode cX0_init 9 = .ok (.putfield 9, 3) := by decide +kernel
theorem dX0_init_12 : decode cX0_init 12 = .ok (.aload_n 0, 1) := by decide +kernel
theorem dX0_init_13 : decode cX0_init 13 = .ok (.bipush 8, 2) := by decide +kernel
theorem dX0_init_15 : decode cX0_init 15 = .ok (.newarray .int, 2) := by decide +kernel
theorem dX0_init_17 : decode cX0_init 17 = .ok (.putfield 15, 3) := by decide +kernel
theorem dX0_init_20 : decode cX0_init 20 = .ok (.aload_n 0, 1) := by decide +kernel
theorem dX0_init_21 : decode cX0_init 21 = .ok (.bipush 12, 2) := by decide +kernel
theorem dX0_init_23 : decode cX0_init 23 = .ok (.newarray .int, 2) := by decide +kernel
theorem dX0_init_25 : decode cX0_init 25 = .ok (.putfield 18, 3) := by decide +kernel
theorem dX0_init_28 : decode cX0_init 28 = .ok (.aload_n 0, 1) := by decide +kernel
theorem dX0_init_29 : decode cX0_init 29 = .ok (.sipush 192, 3) := by decide +kernel
theorem dX0_init_32 : decode cX0_init 32 = .ok (.newarray .int, 2) := by decide +kernel
theorem dX0_init_34 : decode cX0_init 34 = .ok (.putfield 21, 3) := by decide +kernel
theorem dX0_init_37 : decode cX0_init 37 = .ok (.aload_n 0, 1) := by decide +kernel
theorem dX0_init_38 : decode cX0_init 38 = .ok (.bipush 6, 2) := by decide +kernel
theorem dX0_init_40 : decode cX0_init 40 = .ok (.newarray .int, 2) := by decide +kernel
theorem dX0_init_42 : decode cX0_init 42 = .ok (.putfield 24, 3) := by decide +kernel
theorem dX0_init_45 : decode cX0_init 45 = .ok (.aload_n 0, 1) := by decide +kernel
theorem dX0_init_46 : decode cX0_init 46 = .ok (.bipush 6, 2) := by decide +kernel
theorem dX0_init_48 : decode cX0_init 48 = .ok (.newarray .int, 2) := by decide +kernel
theorem dX0_init_50 : decode cX0_init 50 = .ok (.putfield 27, 3) := by decide +kernel
theorem dX0_init_53 : decode cX0_init 53 = .ok (.aload_n 0, 1) := by decide +kernel
theorem dX0_init_54 : decode cX0_init 54 = .ok (.bipush 10, 2) := by decide +kernel
theorem dX0_init_56 : decode cX0_init 56 = .ok (.newarray .int, 2) := by decide +kernel
theorem dX0_init_58 : decode cX0_init 58 = .ok (.putfield 30, 3) := by decide +kernel
theorem dX0_init_61 : decode cX0_init 61 = .ok (.aload_n 0, 1) := by decide +kernel
theorem dX0_init_62 : decode cX0_init 62 = .ok (.iconst 0, 1) := by decide +kernel
theorem dX0_init_63 : decode cX0_init 63 = .ok (.putfield 33, 3) := by decide +kernel
theorem dX0_init_66 : decode cX0_init 66 = .ok (.aload_n 0, 1) := by decide +kernel
theorem dX0_init_67 : decode cX0_init 67 = .ok (.iconst 0, 1) := by decide +kernel
theorem dX0_init_68 : decode cX0_init 68 = .ok (.putfield 37, 3) := by decide +kernel
theorem dX0_init_71 : decode cX0_init 71 = .ok (.aload_n 0, 1) := by decide +kernel
theorem dX0_init_72 : decode cX0_init 72 = .ok (.iconst 1, 1) := by decide +kernel
theorem dX0_init_73 : decode cX0_init 73 = .ok (.putfield 40, 3) := by decide +kernel
theorem dX0_init_76 : decode cX0_init 76 = .ok (.aload_n 0, 1) := by decide +kernel
theorem dX0_init_77 : decode cX0_init 77 = .ok (.getfield 9, 3) := by decide +kernel
theorem dX0_init_80 : decode cX0_init 80 = .ok (.bipush 10, 2) := by decide +kernel
theorem dX0_init_82 : decode cX0_init 82 = .ok (.invokestatic 43, 3) := by decide +kernel
theorem dX0_init_85 : decode cX0_init 85 = .ok (.aload_n 0, 1) := by decide +kernel
theorem dX0_init_86 : decode cX0_init 86 = .ok (.getfield 15, 3) := by decide +kernel
theorem dX0_init_89 : decode cX0_init 89 = .ok (.iconst (-1), 1) := by decide +kernel
theorem dX0_init_90 : decode cX0_init 90 = .ok (.invokestatic 43, 3) := by decide +kernel
theorem dX0_init_93 : decode cX0_init 93 = .ok (.aload_n 0, 1) := by decide +kernel
theorem dX0_init_94 : decode cX0_init 94 = .ok (.getfield 30, 3) := by decide +kernel
theorem dX0_init_97 : decode cX0_init 97 = .ok (.iconst (-1), 1) := by decide +kernel
theorem dX0_init_98 : decode cX0_init 98 = .ok (.invokestatic 43, 3) := by decide +kernel
theorem dX0_init_101 : decode cX0_init 101 = .ok (.return_, 1) := by decide +kernel
theorem dX0_takeFrom_0 : decode cX0_takeFrom 0 = .ok (.aload_n 1, 1) := by decide +kernel
theorem dX0_takeFrom_1 : decode cX0_takeFrom 1 = .ok (.getfield 9, 3) := by decide +kernel
theorem dX0_takeFrom_4 : decode cX0_takeFrom 4 = .ok (.iconst 0, 1) := by decide +kernel
theorem dX0_takeFrom_5 : decode cX0_takeFrom 5 = .ok (.aload_n 0, 1) := by decide +kernel
theorem dX0_takeFrom_6 : decode cX0_takeFrom 6 = .ok (.getfield 9, 3) := by decide +kernel
theorem dX0_takeFrom_9 : decode cX0_takeFrom 9 = .ok (.iconst 0, 1) := by decide +kernel
theorem dX0_takeFrom_10 : decode cX0_takeFrom 10 = .ok (.bipush 8, 2) := by decide +kernel
theorem dX0_takeFrom_12 : decode cX0_takeFrom 12 = .ok (.invokestatic 49, 3) := by decide +kernel
theorem dX0_takeFrom_15 : decode cX0_takeFrom 15 = .ok (.aload_n 1, 1) := by decide +kernel
theorem dX0_takeFrom_16 : decode cX0_takeFrom 16 = .ok (.getfield 15, 3) := by decide +kernel
theorem dX0_takeFrom_19 : decode cX0_takeFrom 19 = .ok (.iconst 0, 1) := by decide +kernel
theorem dX0_takeFrom_20 : decode cX0_takeFrom 20 = .ok (.aload_n 0, 1) := by decide +kernel
theorem dX0_takeFrom_21 : decode cX0_takeFrom 21 = .ok (.getfield 15, 3) := by decide +kernel
theorem dX0_takeFrom_24 : decode cX0_takeFrom 24 = .ok (.iconst 0, 1) := by decide +kernel
theorem dX0_takeFrom_25 : decode cX0_takeFrom 25 = .ok (.bipush 8, 2) := by decide +kernel
theorem dX0_takeFrom_27 : decode cX0_takeFrom 27 = .ok (.invokestatic 49, 3) := by decide +kernel
theorem dX0_takeFrom_30 : decode cX0_takeFrom 30 = .ok (.aload_n 1, 1) := by decide +kernel
theorem dX0_takeFrom_31 : decode cX0_takeFrom 31 = .ok (.getfield 18, 3) := by decide +kernel
theorem dX0_takeFrom_34 : decode cX0_takeFrom 34 = .ok (.iconst 0, 1) := by decide +kernel
theorem dX0_takeFrom_35 : decode cX0_takeFrom 35 = .ok (.aload_n 0, 1) := by decide +kernel
theorem dX0_takeFrom_36 : decode cX0_takeFrom 36 = .ok (.getfield 18, 3) := by decide +kernel
theorem dX0_takeFrom_39 : decode cX0_takeFrom 39 = .ok (.iconst 0, 1) := by decide +kernel
theorem dX0_takeFrom_40 : decode cX0_takeFrom 40 = .ok (.bipush 12, 2) := by decide +kernel
theorem dX0_takeFrom_42 : decode cX0_takeFrom 42 = .ok (.invokestatic 49, 3) := by decide +kernel
theorem dX0_takeFrom_45 : decode cX0_takeFrom 45 = .ok (.aload_n 1, 1) := by decide +kernel
theorem dX0_takeFrom_46 : decode cX0_takeFrom 46 = .ok (.getfield 21, 3) := by decide +kernel
theorem dX0_takeFrom_49 : decode cX0_takeFrom 49 = .ok (.iconst 0, 1) := by decide +kernel
theorem dX0_takeFrom_50 : decode cX0_takeFrom 50 = .ok (.aload_n 0, 1) := by decide +kernel
theorem dX0_takeFrom_51 : decode cX0_takeFrom 51 = .ok (.getfield 21, 3) := by decide +kernel
theorem dX0_takeFrom_54 : decode cX0_takeFrom 54 = .ok (.iconst 0, 1) := by decide +kernel
theorem dX0_takeFrom_55 : decode cX0_takeFrom 55 = .ok (.sipush 192, 3) := by decide +kernel
theorem dX0_takeFrom_58 : decode cX0_takeFrom 58 = .ok (.invokestatic 49, 3) := by decide +kernel
theorem dX0_takeFrom_61 : decode cX0_takeFrom 61 = .ok (.aload_n 1, 1) := by decide +kernel
theorem dX0_takeFrom_62 : decode cX0_takeFrom 62 = .ok (.getfield 24, 3) := by decide +kernel
theorem dX0_takeFrom_65 : decode cX0_takeFrom 65 = .ok (.iconst 0, 1) := by decide +kernel
theorem dX0_takeFrom_66 : decode cX0_takeFrom 66 = .ok (.aload_n 0, 1) := by decide +kernel
theorem dX0_takeFrom_67 : decode cX0_takeFrom 67 = .ok (.getfield 24, 3) := by decide +kernel
theorem dX0_takeFrom_70 : decode cX0_takeFrom 70 = .ok (.iconst 0, 1) := by decide +kernel
theorem dX0_takeFrom_71 : decode cX0_takeFrom 71 = .ok (.bipush 6, 2) := by decide +kernel
theorem dX0_takeFrom_73 : decode cX0_takeFrom 73 = .ok (.invokestatic 49, 3) := by decide +kernel
theorem dX0_takeFrom_76 : decode cX0_takeFrom 76 = .ok (.aload_n 1, 1) := by decide +kernel
theorem dX0_takeFrom_77 : decode cX0_takeFrom 77 = .ok (.getfield 27, 3) := by decide +kernel
theorem dX0_takeFrom_80 : decode cX0_takeFrom 80 = .ok (.iconst 0, 1) := by decide +kernel
theorem dX0_takeFrom_81 : decode cX0_takeFrom 81 = .ok (.aload_n 0, 1) := by decide +kernel
theorem dX0_takeFrom_82 : decode cX0_takeFrom 82 = .ok (.getfield 27, 3) := by decide +kernel
theorem dX0_takeFrom_85 : decode cX0_takeFrom 85 = .ok (.iconst 0, 1) := by decide +kernel
theorem dX0_takeFrom_86 : decode cX0_takeFrom 86 = .ok (.bipush 6, 2) := by decide +kernel
theorem dX0_takeFrom_88 : decode cX0_takeFrom 88 = .ok (.invokestatic 49, 3) := by decide +kernel
theorem dX0_takeFrom_91 : decode cX0_takeFrom 91 = .ok (.aload_n 1, 1) := by decide +kernel
theorem dX0_takeFrom_92 : decode cX0_takeFrom 92 = .ok (.getfield 30, 3) := by decide +kernel
theorem dX0_takeFrom_95 : decode cX0_takeFrom 95 = .ok (.iconst 0, 1) := by decide +kernel
theorem dX0_takeFrom_96 : decode cX0_takeFrom 96 = .ok (.aload_n 0, 1) := by decide +kernel
theorem dX0_takeFrom_97 : decode cX0_takeFrom 97 = .ok (.getfield 30, 3) := by decide +kernel
theorem dX0_takeFrom_100 : decode cX0_takeFrom 100 = .ok (.iconst 0, 1) := by decide +kernel
theorem dX0_takeFrom_101 : decode cX0_takeFrom 101 = .ok (.bipush 10, 2) := by decide +kernel
theorem dX0_takeFrom_103 : decode cX0_takeFrom 103 = .ok (.invokestatic 49, 3) := by decide +kernel
theorem dX0_takeFrom_106 : decode cX0_takeFrom 106 = .ok (.aload_n 0, 1) := by decide +kernel
theorem dX0_takeFrom_107 : decode cX0_takeFrom 107 = .ok (.aload_n 1, 1) := by decide +kernel
theorem dX0_takeFrom_108 : decode cX0_takeFrom 108 = .ok (.getfield 33, 3) := by decide +kernel
theorem dX0_takeFrom_111 : decode cX0_takeFrom 111 = .ok (.putfield 33, 3) := by decide +kernel
theorem dX0_takeFrom_114 : decode cX0_takeFrom 114 = .ok (.aload_n 0, 1) := by decide +kernel
theorem dX0_takeFrom_115 : decode cX0_takeFrom 115 = .ok (.aload_n 1, 1) := by decide +kernel
theorem dX0_takeFrom_116 : decode cX0_takeFrom 116 = .ok (.getfield 37, 3) := by decide +kernel
theorem dX0_takeFrom_119 : decode cX0_takeFrom 119 = .ok (.putfield 37, 3) := by decide +kernel
theorem dX0_takeFrom_122 : decode cX0_takeFrom 122 = .ok (.aload_n 0, 1) := by decide +kernel
theorem dX0_takeFrom_123 : decode cX0_takeFrom 123 = .ok (.aload_n 1, 1) := by decide +kernel
theorem dX0_takeFrom_124 : decode cX0_takeFrom 124 = .ok (.getfield 40, 3) := by decide +kernel
theorem dX0_takeFrom_127 : decode cX0_takeFrom 127 = .ok (.putfield 40, 3) := by decide +kernel
theorem dX0_takeFrom_130 : decode cX0_takeFrom 130 = .ok (.return_, 1) := by decide +kernel
theorem dX0_setWorth_0 : decode cX0_setWorth 0 = .ok (.aload_n 0, 1) := by decide +kernel
theorem dX0_setWorth_1 : decode cX0_setWorth 1 = .ok (.getfield 9, 3) := by decide +kernel
theorem dX0_setWorth_4 : decode cX0_setWorth 4 = .ok (.iload_n 1, 1) := by decide +kernel
theorem dX0_setWorth_5 : decode cX0_setWorth 5 = .ok (.iload_n 2, 1) := by decide +kernel
theorem dX0_setWorth_6 : decode cX0_setWorth 6 = .ok (.iastore, 1) := by decide +kernel
theorem dX0_setWorth_7 : decode cX0_setWorth 7 = .ok (.iconst 0, 1) := by decide +kernel
theorem dX0_setWorth_8 : decode cX0_setWorth 8 = .ok (.istore_n 3, 1) := by decide +kernel
theorem dX0_setWorth_9 : decode cX0_setWorth 9 = .ok (.iload_n 3, 1) := by decide +kernel
theorem dX0_setWorth_10 : decode cX0_setWorth 10 = .ok (.aload_n 0, 1) := by decide +kernel
theorem dX0_setWorth_11 : decode cX0_setWorth 11 = .ok (.getfield 33, 3) := by decide +kernel
theorem dX0_setWorth_14 : decode cX0_setWorth 14 = .ok (.if_icmp .ge 51, 3) := by decide +kernel
theorem dX0_setWorth_17 : decode cX0_setWorth 17 = .ok (.iconst 0, 1) := by decide +kernel
theorem dX0_setWorth_18 : decode cX0_setWorth 18 = .ok (.istore 4, 2) := by decide +kernel
theorem dX0_setWorth_20 : decode cX0_setWorth 20 = .ok (.iload 4, 2) := by decide +kernel
theorem dX0_setWorth_22 : decode cX0_setWorth 22 = .ok (.iconst 2, 1) := by decide +kernel
theorem dX0_setWorth_23 : decode cX0_setWorth 23 = .ok (.if_icmp .ge 36, 3) := by decide +kernel
theorem dX0_setWorth_26 : decode cX0_setWorth 26 = .ok (.iload_n 3, 1) := by decide +kernel
theorem dX0_setWorth_27 : decode cX0_setWorth 27 = .ok (.iload_n 1, 1) := by decide +kernel
theorem dX0_setWorth_28 : decode cX0_setWorth 28 = .ok (.iload 4, 2) := by decide +kernel
theorem dX0_setWorth_30 : decode cX0_setWorth 30 = .ok (.invokestatic 55, 3) := by decide +kernel
theorem dX0_setWorth_33 : decode cX0_setWorth 33 = .ok (.istore 5, 2) := by decide +kernel
theorem dX0_setWorth_35 : decode cX0_setWorth 35 = .ok (.aload_n 0, 1) := by decide +kernel
theorem dX0_setWorth_36 : decode cX0_setWorth 36 = .ok (.getfield 21, 3) := by decide +kernel
theorem dX0_setWorth_39 : decode cX0_setWorth 39 = .ok (.iload 5, 2) := by decide +kernel
theorem dX0_setWorth_41 : decode cX0_setWorth 41 = .ok (.aload_n 0, 1) := by decide +kernel
theorem dX0_setWorth_42 : decode cX0_setWorth 42 = .ok (.getfield 21, 3) := by decide +kernel
theorem dX0_setWorth_45 : decode cX0_setWorth 45 = .ok (.iload 5, 2) := by decide +kernel
theorem dX0_setWorth_47 : decode cX0_setWorth 47 = .ok (.iaload, 1) := by decide +kernel
theorem dX0_setWorth_48 : decode cX0_setWorth 48 = .ok (.iload_n 2, 1) := by decide +kernel
theorem dX0_setWorth_49 : decode cX0_setWorth 49 = .ok (.invokestatic 59, 3) := by decide +kernel
theorem dX0_setWorth_52 : decode cX0_setWorth 52 = .ok (.iastore, 1) := by decide +kernel
theorem dX0_setWorth_53 : decode cX0_setWorth 53 = .ok (.iinc 4 1, 3) := by decide +kernel
theorem dX0_setWorth_56 : decode cX0_setWorth 56 = .ok (.goto (-36), 3) := by decide +kernel
theorem dX0_setWorth_59 : decode cX0_setWorth 59 = .ok (.iinc 3 1, 3) := by decide +kernel
theorem dX0_setWorth_62 : decode cX0_setWorth 62 = .ok (.goto (-53), 3) := by decide +kernel
theorem dX0_setWorth_65 : decode cX0_setWorth 65 = .ok (.return_, 1) := by decide +kernel
theorem dX0_addPupil_0 : decode cX0_addPupil 0 = .ok (.aload_n 0, 1) := by decide +kernel
theorem dX0_addPupil_1 : decode cX0_addPupil 1 = .ok (.getfield 33, 3) := by decide +kernel
theorem dX0_addPupil_4 : decode cX0_addPupil 4 = .ok (.istore_n 2, 1) := by decide +kernel
theorem dX0_addPupil_5 : decode cX0_addPupil 5 = .ok (.iconst 0, 1) := by decide +kernel
theorem dX0_addPupil_6 : decode cX0_addPupil 6 = .ok (.istore_n 3, 1) := by decide +kernel
theorem dX0_addPupil_7 : decode cX0_addPupil 7 = .ok (.iload_n 3, 1) := by decide +kernel
theorem dX0_addPupil_8 : decode cX0_addPupil 8 = .ok (.bipush 8, 2) := by decide +kernel
theorem dX0_addPupil_10 : decode cX0_addPupil 10 = .ok (.if_icmp .ge 16, 3) := by decide +kernel
theorem dX0_addPupil_13 : decode cX0_addPupil 13 = .ok (.aload_n 0, 1) := by decide +kernel
theorem dX0_addPupil_14 : decode cX0_addPupil 14 = .ok (.iload_n 2, 1) := by decide +kernel
theorem dX0_addPupil_15 : decode cX0_addPupil 15 = .ok (.iload_n 3, 1) := by decide +kernel
theorem dX0_addPupil_16 : decode cX0_addPupil 16 = .ok (.iconst 0, 1) := by decide +kernel
theorem dX0_addPupil_17 : decode cX0_addPupil 17 = .ok (.invokevirtual 65, 3) := by decide +kernel
theorem dX0_addPupil_20 : decode cX0_addPupil 20 = .ok (.iinc 3 1, 3) := by decide +kernel
theorem dX0_addPupil_23 : decode cX0_addPupil 23 = .ok (.goto (-16), 3) := by decide +kernel
theorem dX0_addPupil_26 : decode cX0_addPupil 26 = .ok (.aload_n 0, 1) := by decide +kernel
theorem dX0_addPupil_27 : decode cX0_addPupil 27 = .ok (.getfield 18, 3) := by decide +kernel
theorem dX0_addPupil_30 : decode cX0_addPupil 30 = .ok (.iload_n 2, 1) := by decide +kernel
theorem dX0_addPupil_31 : decode cX0_addPupil 31 = .ok (.iload_n 1, 1) := by decide +kernel
theorem dX0_addPupil_32 : decode cX0_addPupil 32 = .ok (.iastore, 1) := by decide +kernel
theorem dX0_addPupil_33 : decode cX0_addPupil 33 = .ok (.aload_n 0, 1) := by decide +kernel
theorem dX0_addPupil_34 : decode cX0_addPupil 34 = .ok (.dup, 1) := by decide +kernel
theorem dX0_addPupil_35 : decode cX0_addPupil 35 = .ok (.getfield 33, 3) := by decide +kernel
theorem dX0_addPupil_38 : decode cX0_addPupil 38 = .ok (.iconst 1, 1) := by decide +kernel
theorem dX0_addPupil_39 : decode cX0_addPupil 39 = .ok (.iadd, 1) := by decide +kernel
theorem dX0_addPupil_40 : decode cX0_addPupil 40 = .ok (.putfield 33, 3) := by decide +kernel
theorem dX0_addPupil_43 : decode cX0_addPupil 43 = .ok (.iload_n 2, 1) := by decide +kernel
theorem dX0_addPupil_44 : decode cX0_addPupil 44 = .ok (.ireturn, 1) := by decide +kernel
theorem dX0_addCurve_0 : decode cX0_addCurve 0 = .ok (.aload_n 0, 1) := by decide +kernel
theorem dX0_addCurve_1 : decode cX0_addCurve 1 = .ok (.getfield 37, 3) := by decide +kernel
theorem dX0_addCurve_4 : decode cX0_addCurve 4 = .ok (.istore_n 3, 1) := by decide +kernel
theorem dX0_addCurve_5 : decode cX0_addCurve 5 = .ok (.aload_n 0, 1) := by decide +kernel
theorem dX0_addCurve_6 : decode cX0_addCurve 6 = .ok (.getfield 24, 3) := by decide +kernel
theorem dX0_addCurve_9 : decode cX0_addCurve 9 = .ok (.iload_n 3, 1) := by decide +kernel
theorem dX0_addCurve_10 : decode cX0_addCurve 10 = .ok (.iload_n 1, 1) := by decide +kernel
theorem dX0_addCurve_11 : decode cX0_addCurve 11 = .ok (.iastore, 1) := by decide +kernel
theorem dX0_addCurve_12 : decode cX0_addCurve 12 = .ok (.aload_n 0, 1) := by decide +kernel
theorem dX0_addCurve_13 : decode cX0_addCurve 13 = .ok (.getfield 27, 3) := by decide +kernel
theorem dX0_addCurve_16 : decode cX0_addCurve 16 = .ok (.iload_n 3, 1) := by decide +kernel
theorem dX0_addCurve_17 : decode cX0_addCurve 17 = .ok (.iload_n 2, 1) := by decide +kernel
theorem dX0_addCurve_18 : decode cX0_addCurve 18 = .ok (.iastore, 1) := by decide +kernel
theorem dX0_addCurve_19 : decode cX0_addCurve 19 = .ok (.aload_n 0, 1) := by decide +kernel
theorem dX0_addCurve_20 : decode cX0_addCurve 20 = .ok (.dup, 1) := by decide +kernel
theorem dX0_addCurve_21 : decode cX0_addCurve 21 = .ok (.getfield 37, 3) := by decide +kernel
theorem dX0_addCurve_24 : decode cX0_addCurve 24 = .ok (.iconst 1, 1) := by decide +kernel
theorem dX0_addCurve_25 : decode cX0_addCurve 25 = .ok (.iadd, 1) := by decide +kernel
theorem dX0_addCurve_26 : decode cX0_addCurve 26 = .ok (.putfield 37, 3) := by decide +kernel
theorem dX0_addCurve_29 : decode cX0_addCurve 29 = .ok (.iload_n 3, 1) := by decide +kernel
theorem dX0_addCurve_30 : decode cX0_addCurve 30 = .ok (.ireturn, 1) := by decide +kernel
theorem dX0_setBoth_0 : decode cX0_setBoth 0 = .ok (.iconst 0, 1) := by decide +kernel
theorem dX0_setBoth_1 : decode cX0_setBoth 1 = .ok (.istore 4, 2) := by decide +kernel
theorem dX0_setBoth_3 : decode cX0_setBoth 3 = .ok (.iload 4, 2) := by decide +kernel
theorem dX0_setBoth_5 : decode cX0_setBoth 5 = .ok (.iconst 2, 1) := by decide +kernel
theorem dX0_setBoth_6 : decode cX0_setBoth 6 = .ok (.if_icmp .ge 22, 3) := by decide +kernel
theorem dX0_setBoth_9 : decode cX0_setBoth 9 = .ok (.aload_n 0, 1) := by decide +kernel
theorem dX0_setBoth_10 : decode cX0_setBoth 10 = .ok (.getfield 21, 3) := by decide +kernel
theorem dX0_setBoth_13 : decode cX0_setBoth 13 = .ok (.iload_n 1, 1) := by decide +kernel
theorem dX0_setBoth_14 : decode cX0_setBoth 14 = .ok (.iload_n 2, 1) := by decide +kernel
theorem dX0_setBoth_15 : decode cX0_setBoth 15 = .ok (.iload 4, 2) := by decide +kernel
theorem dX0_setBoth_17 : decode cX0_setBoth 17 = .ok (.invokestatic 55, 3) := by decide +kernel
theorem dX0_setBoth_20 : decode cX0_setBoth 20 = .ok (.iload_n 3, 1) := by decide +kernel
theorem dX0_setBoth_21 : decode cX0_setBoth 21 = .ok (.iastore, 1) := by decide +kernel
theorem dX0_setBoth_22 : decode cX0_setBoth 22 = .ok (.iinc 4 1, 3) := by decide +kernel
theorem dX0_setBoth_25 : decode cX0_setBoth 25 = .ok (.goto (-22), 3) := by decide +kernel
theorem dX0_setBoth_28 : decode cX0_setBoth 28 = .ok (.return_, 1) := by decide +kernel
theorem dX0_scoreOf_0 : decode cX0_scoreOf 0 = .ok (.aload_n 0, 1) := by decide +kernel
theorem dX0_scoreOf_1 : decode cX0_scoreOf 1 = .ok (.getfield 21, 3) := by decide +kernel
theorem dX0_scoreOf_4 : decode cX0_scoreOf 4 = .ok (.iload_n 1, 1) := by decide +kernel
theorem dX0_scoreOf_5 : decode cX0_scoreOf 5 = .ok (.iload_n 2, 1) := by decide +kernel
theorem dX0_scoreOf_6 : decode cX0_scoreOf 6 = .ok (.iconst 0, 1) := by decide +kernel
theorem dX0_scoreOf_7 : decode cX0_scoreOf 7 = .ok (.invokestatic 55, 3) := by decide +kernel
theorem dX0_scoreOf_10 : decode cX0_scoreOf 10 = .ok (.iaload, 1) := by decide +kernel
theorem dX0_scoreOf_11 : decode cX0_scoreOf 11 = .ok (.aload_n 0, 1) := by decide +kernel
theorem dX0_scoreOf_12 : decode cX0_scoreOf 12 = .ok (.getfield 21, 3) := by decide +kernel
theorem dX0_scoreOf_15 : decode cX0_scoreOf 15 = .ok (.iload_n 1, 1) := by decide +kernel
theorem dX0_scoreOf_16 : decode cX0_scoreOf 16 = .ok (.iload_n 2, 1) := by decide +kernel
theorem dX0_scoreOf_17 : decode cX0_scoreOf 17 = .ok (.iconst 1, 1) := by decide +kernel
theorem dX0_scoreOf_18 : decode cX0_scoreOf 18 = .ok (.invokestatic 55, 3) := by decide +kernel
theorem dX0_scoreOf_21 : decode cX0_scoreOf 21 = .ok (.iaload, 1) := by decide +kernel
theorem dX0_scoreOf_22 : decode cX0_scoreOf 22 = .ok (.iadd, 1) := by decide +kernel
theorem dX0_scoreOf_23 : decode cX0_scoreOf 23 = .ok (.iconst 2, 1) := by decide +kernel
theorem dX0_scoreOf_24 : decode cX0_scoreOf 24 = .ok (.idiv, 1) := by decide +kernel
theorem dX0_scoreOf_25 : decode cX0_scoreOf 25 = .ok (.ireturn, 1) := by decide +kernel
theorem dX0_rawOf_0 : decode cX0_rawOf 0 = .ok (.iconst 0, 1) := by decide +kernel
theorem dX0_rawOf_1 : decode cX0_rawOf 1 = .ok (.istore_n 2, 1) := by decide +kernel
theorem dX0_rawOf_2 : decode cX0_rawOf 2 = .ok (.iconst 0, 1) := by decide +kernel
theorem dX0_rawOf_3 : decode cX0_rawOf 3 = .ok (.istore_n 3, 1) := by decide +kernel
theorem dX0_rawOf_4 : decode cX0_rawOf 4 = .ok (.iload_n 3, 1) := by decide +kernel
theorem dX0_rawOf_5 : decode cX0_rawOf 5 = .ok (.bipush 8, 2) := by decide +kernel
theorem dX0_rawOf_7 : decode cX0_rawOf 7 = .ok (.if_icmp .ge 18, 3) := by decide +kernel
theorem dX0_rawOf_10 : decode cX0_rawOf 10 = .ok (.iload_n 2, 1) := by decide +kernel
theorem dX0_rawOf_11 : decode cX0_rawOf 11 = .ok (.aload_n 0, 1) := by decide +kernel
theorem dX0_rawOf_12 : decode cX0_rawOf 12 = .ok (.iload_n 1, 1) := by decide +kernel
theorem dX0_rawOf_13 : decode cX0_rawOf 13 = .ok (.iload_n 3, 1) := by decide +kernel
theorem dX0_rawOf_14 : decode cX0_rawOf 14 = .ok (.invokevirtual 69, 3) := by decide +kernel
theorem dX0_rawOf_17 : decode cX0_rawOf 17 = .ok (.iadd, 1) := by decide +kernel
theorem dX0_rawOf_18 : decode cX0_rawOf 18 = .ok (.istore_n 2, 1) := by decide +kernel
theorem dX0_rawOf_19 : decode cX0_rawOf 19 = .ok (.iinc 3 1, 3) := by decide +kernel
theorem dX0_rawOf_22 : decode cX0_rawOf 22 = .ok (.goto (-18), 3) := by decide +kernel
theorem dX0_rawOf_25 : decode cX0_rawOf 25 = .ok (.iload_n 2, 1) := by decide +kernel
theorem dX0_rawOf_26 : decode cX0_rawOf 26 = .ok (.ireturn, 1) := by decide +kernel
theorem dX0_leanIn_0 : decode cX0_leanIn 0 = .ok (.aload_n 0, 1) := by decide +kernel
theorem dX0_leanIn_1 : decode cX0_leanIn 1 = .ok (.getfield 21, 3) := by decide +kernel
theorem dX0_leanIn_4 : decode cX0_leanIn 4 = .ok (.iload_n 1, 1) := by decide +kernel
theorem dX0_leanIn_5 : decode cX0_leanIn 5 = .ok (.iload_n 2, 1) := by decide +kernel
theorem dX0_leanIn_6 : decode cX0_leanIn 6 = .ok (.iconst 1, 1) := by decide +kernel
theorem dX0_leanIn_7 : decode cX0_leanIn 7 = .ok (.invokestatic 55, 3) := by decide +kernel
theorem dX0_leanIn_10 : decode cX0_leanIn 10 = .ok (.iaload, 1) := by decide +kernel
theorem dX0_leanIn_11 : decode cX0_leanIn 11 = .ok (.aload_n 0, 1) := by decide +kernel
theorem dX0_leanIn_12 : decode cX0_leanIn 12 = .ok (.getfield 21, 3) := by decide +kernel
theorem dX0_leanIn_15 : decode cX0_leanIn 15 = .ok (.iload_n 1, 1) := by decide +kernel
theorem dX0_leanIn_16 : decode cX0_leanIn 16 = .ok (.iload_n 2, 1) := by decide +kernel
theorem dX0_leanIn_17 : decode cX0_leanIn 17 = .ok (.iconst 0, 1) := by decide +kernel
theorem dX0_leanIn_18 : decode cX0_leanIn 18 = .ok (.invokestatic 55, 3) := by decide +kernel
theorem dX0_leanIn_21 : decode cX0_leanIn 21 = .ok (.iaload, 1) := by decide +kernel
theorem dX0_leanIn_22 : decode cX0_leanIn 22 = .ok (.isub, 1) := by decide +kernel
theorem dX0_leanIn_23 : decode cX0_leanIn 23 = .ok (.ireturn, 1) := by decide +kernel
theorem dX0_markersApart_0 : decode cX0_markersApart 0 = .ok (.iconst 0, 1) := by decide +kernel
theorem dX0_markersApart_1 : decode cX0_markersApart 1 = .ok (.istore_n 2, 1) := by decide +kernel
theorem dX0_markersApart_2 : decode cX0_markersApart 2 = .ok (.iconst 0, 1) := by decide +kernel
theorem dX0_markersApart_3 : decode cX0_markersApart 3 = .ok (.istore_n 3, 1) := by decide +kernel
theorem dX0_markersApart_4 : decode cX0_markersApart 4 = .ok (.iload_n 3, 1) := by decide +kernel
theorem dX0_markersApart_5 : decode cX0_markersApart 5 = .ok (.bipush 8, 2) := by decide +kernel
theorem dX0_markersApart_7 : decode cX0_markersApart 7 = .ok (.if_icmp .ge 21, 3) := by decide +kernel
theorem dX0_markersApart_10 : decode cX0_markersApart 10 = .ok (.iload_n 2, 1) := by decide +kernel
theorem dX0_markersApart_11 : decode cX0_markersApart 11 = .ok (.aload_n 0, 1) := by decide +kernel
theorem dX0_markersApart_12 : decode cX0_markersApart 12 = .ok (.iload_n 1, 1) := by decide +kernel
theorem dX0_markersApart_13 : decode cX0_markersApart 13 = .ok (.iload_n 3, 1) := by decide +kernel
theorem dX0_markersApart_14 : decode cX0_markersApart 14 = .ok (.invokevirtual 72, 3) := by decide +kernel
theorem dX0_markersApart_17 : decode cX0_markersApart 17 = .ok (.invokestatic 75, 3) := by decide +kernel
theorem dX0_markersApart_20 : decode cX0_markersApart 20 = .ok (.iadd, 1) := by decide +kernel
theorem dX0_markersApart_21 : decode cX0_markersApart 21 = .ok (.istore_n 2, 1) := by decide +kernel
theorem dX0_markersApart_22 : decode cX0_markersApart 22 = .ok (.iinc 3 1, 3) := by decide +kernel
theorem dX0_markersApart_25 : decode cX0_markersApart 25 = .ok (.goto (-21), 3) := by decide +kernel
theorem dX0_markersApart_28 : decode cX0_markersApart 28 = .ok (.iload_n 2, 1) := by decide +kernel
theorem dX0_markersApart_29 : decode cX0_markersApart 29 = .ok (.ireturn, 1) := by decide +kernel
theorem dX0_commonSet_0 : decode cX0_commonSet 0 = .ok (.iconst 0, 1) := by decide +kernel
theorem dX0_commonSet_1 : decode cX0_commonSet 1 = .ok (.istore_n 1, 1) := by decide +kernel
theorem dX0_commonSet_2 : decode cX0_commonSet 2 = .ok (.iconst 0, 1) := by decide +kernel
theorem dX0_commonSet_3 : decode cX0_commonSet 3 = .ok (.istore_n 2, 1) := by decide +kernel
theorem dX0_commonSet_4 : decode cX0_commonSet 4 = .ok (.iload_n 2, 1) := by decide +kernel
theorem dX0_commonSet_5 : decode cX0_commonSet 5 = .ok (.bipush 8, 2) := by decide +kernel
theorem dX0_commonSet_7 : decode cX0_commonSet 7 = .ok (.if_icmp .ge 24, 3) := by decide +kernel
theorem dX0_commonSet_10 : decode cX0_commonSet 10 = .ok (.aload_n 0, 1) := by decide +kernel
theorem dX0_commonSet_11 : decode cX0_commonSet 11 = .ok (.getfield 15, 3) := by decide +kernel
theorem dX0_commonSet_14 : decode cX0_commonSet 14 = .ok (.iload_n 2, 1) := by decide +kernel
theorem dX0_commonSet_15 : decode cX0_commonSet 15 = .ok (.iaload, 1) := by decide +kernel
theorem dX0_commonSet_16 : decode cX0_commonSet 16 = .ok (.ifCond .lt 9, 3) := by decide +kernel
theorem dX0_commonSet_19 : decode cX0_commonSet 19 = .ok (.iload_n 1, 1) := by decide +kernel
theorem dX0_commonSet_20 : decode cX0_commonSet 20 = .ok (.iconst 1, 1) := by decide +kernel
theorem dX0_commonSet_21 : decode cX0_commonSet 21 = .ok (.iload_n 2, 1) := by decide +kernel
theorem dX0_commonSet_22 : decode cX0_commonSet 22 = .ok (.ishl, 1) := by decide +kernel
theorem dX0_commonSet_23 : decode cX0_commonSet 23 = .ok (.ior, 1) := by decide +kernel
theorem dX0_commonSet_24 : decode cX0_commonSet 24 = .ok (.istore_n 1, 1) := by decide +kernel
theorem dX0_commonSet_25 : decode cX0_commonSet 25 = .ok (.iinc 2 1, 3) := by decide +kernel
theorem dX0_commonSet_28 : decode cX0_commonSet 28 = .ok (.goto (-24), 3) := by decide +kernel
theorem dX0_commonSet_31 : decode cX0_commonSet 31 = .ok (.iload_n 1, 1) := by decide +kernel
theorem dX0_commonSet_32 : decode cX0_commonSet 32 = .ok (.ireturn, 1) := by decide +kernel
theorem dX0_spotsInUse_0 : decode cX0_spotsInUse 0 = .ok (.iconst 0, 1) := by decide +kernel
theorem dX0_spotsInUse_1 : decode cX0_spotsInUse 1 = .ok (.istore_n 1, 1) := by decide +kernel
theorem dX0_spotsInUse_2 : decode cX0_spotsInUse 2 = .ok (.iconst 0, 1) := by decide +kernel
theorem dX0_spotsInUse_3 : decode cX0_spotsInUse 3 = .ok (.istore_n 2, 1) := by decide +kernel
theorem dX0_spotsInUse_4 : decode cX0_spotsInUse 4 = .ok (.iload_n 2, 1) := by decide +kernel
theorem dX0_spotsInUse_5 : decode cX0_spotsInUse 5 = .ok (.bipush 10, 2) := by decide +kernel
theorem dX0_spotsInUse_7 : decode cX0_spotsInUse 7 = .ok (.if_icmp .ge 21, 3) := by decide +kernel
theorem dX0_spotsInUse_10 : decode cX0_spotsInUse 10 = .ok (.aload_n 0, 1) := by decide +kernel
theorem dX0_spotsInUse_11 : decode cX0_spotsInUse 11 = .ok (.getfield 30, 3) := by decide +kernel
theorem dX0_spotsInUse_14 : decode cX0_spotsInUse 14 = .ok (.iload_n 2, 1) := by decide +kernel
theorem dX0_spotsInUse_15 : decode cX0_spotsInUse 15 = .ok (.iaload, 1) := by decide +kernel
theorem dX0_spotsInUse_16 : decode cX0_spotsInUse 16 = .ok (.ifCond .lt 6, 3) := by decide +kernel
theorem dX0_spotsInUse_19 : decode cX0_spotsInUse 19 = .ok (.iinc 1 1, 3) := by decide +kernel
theorem dX0_spotsInUse_22 : decode cX0_spotsInUse 22 = .ok (.iinc 2 1, 3) := by decide +kernel
theorem dX0_spotsInUse_25 : decode cX0_spotsInUse 25 = .ok (.goto (-21), 3) := by decide +kernel
theorem dX0_spotsInUse_28 : decode cX0_spotsInUse 28 = .ok (.iload_n 1, 1) := by decide +kernel
theorem dX0_spotsInUse_29 : decode cX0_spotsInUse 29 = .ok (.ireturn, 1) := by decide +kernel
theorem dX0_nextDraw_0 : decode cX0_nextDraw 0 = .ok (.aload_n 0, 1) := by decide +kernel
theorem dX0_nextDraw_1 : decode cX0_nextDraw 1 = .ok (.aload_n 0, 1) := by decide +kernel
theorem dX0_nextDraw_2 : decode cX0_nextDraw 2 = .ok (.getfield 40, 3) := by decide +kernel
theorem dX0_nextDraw_5 : decode cX0_nextDraw 5 = .ok (.ldc 79, 2) := by decide +kernel
theorem dX0_nextDraw_7 : decode cX0_nextDraw 7 = .ok (.imul, 1) := by decide +kernel
theorem dX0_nextDraw_8 : decode cX0_nextDraw 8 = .ok (.sipush 12345, 3) := by decide +kernel
theorem dX0_nextDraw_11 : decode cX0_nextDraw 11 = .ok (.iadd, 1) := by decide +kernel
theorem dX0_nextDraw_12 : decode cX0_nextDraw 12 = .ok (.putfield 40, 3) := by decide +kernel
theorem dX0_nextDraw_15 : decode cX0_nextDraw 15 = .ok (.aload_n 0, 1) := by decide +kernel
theorem dX0_nextDraw_16 : decode cX0_nextDraw 16 = .ok (.getfield 40, 3) := by decide +kernel
theorem dX0_nextDraw_19 : decode cX0_nextDraw 19 = .ok (.bipush 8, 2) := by decide +kernel
theorem dX0_nextDraw_21 : decode cX0_nextDraw 21 = .ok (.iushr, 1) := by decide +kernel
theorem dX0_nextDraw_22 : decode cX0_nextDraw 22 = .ok (.ireturn, 1) := by decide +kernel
theorem dX1_init_0 : decode cX1_init 0 = .ok (.aload_n 0, 1) := by decide +kernel
theorem dX1_init_1 : decode cX1_init 1 = .ok (.invokespecial 3, 3) := by decide +kernel
theorem dX1_init_4 : decode cX1_init 4 = .ok (.aload_n 0, 1) := by decide +kernel
theorem dX1_init_5 : decode cX1_init 5 = .ok (.bipush 8, 2) := by decide +kernel
theorem dX1_init_7 : decode cX1_init 7 = .ok (.newarray .int, 2) := by decide +kernel
theorem dX1_init_9 : decode cX1_init 9 = .ok (.putfield 9, 3) := by decide +kernel
theorem dX1_init_12 : decode cX1_init 12 = .ok (.aload_n 0, 1) := by decide +kernel
theorem dX1_init_13 : decode cX1_init 13 = .ok (.bipush 96, 2) := by decide +kernel
theorem dX1_init_15 : decode cX1_init 15 = .ok (.newarray .int, 2) := by decide +kernel
theorem dX1_init_17 : decode cX1_init 17 = .ok (.putfield 15, 3) := by decide +kernel
theorem dX1_init_20 : decode cX1_init 20 = .ok (.aload_n 0, 1) := by decide +kernel
theorem dX1_init_21 : decode cX1_init 21 = .ok (.bipush 12, 2) := by decide +kernel
theorem dX1_init_23 : decode cX1_init 23 = .ok (.newarray .int, 2) := by decide +kernel
theorem dX1_init_25 : decode cX1_init 25 = .ok (.putfield 18, 3) := by decide +kernel
theorem dX1_init_28 : decode cX1_init 28 = .ok (.aload_n 0, 1) := by decide +kernel
theorem dX1_init_29 : decode cX1_init 29 = .ok (.iconst 0, 1) := by decide +kernel
theorem dX1_init_30 : decode cX1_init 30 = .ok (.putfield 21, 3) := by decide +kernel
theorem dX1_init_33 : decode cX1_init 33 = .ok (.aload_n 0, 1) := by decide +kernel
theorem dX1_init_34 : decode cX1_init 34 = .ok (.iconst 0, 1) := by decide +kernel
theorem dX1_init_35 : decode cX1_init 35 = .ok (.putfield 25, 3) := by decide +kernel
theorem dX1_init_38 : decode cX1_init 38 = .ok (.aload_n 0, 1) := by decide +kernel
theorem dX1_init_39 : decode cX1_init 39 = .ok (.iconst 0, 1) := by decide +kernel
theorem dX1_init_40 : decode cX1_init 40 = .ok (.putfield 28, 3) := by decide +kernel
theorem dX1_init_43 : decode cX1_init 43 = .ok (.aload_n 0, 1) := by decide +kernel
theorem dX1_init_44 : decode cX1_init 44 = .ok (.iconst 0, 1) := by decide +kernel
theorem dX1_init_45 : decode cX1_init 45 = .ok (.putfield 31, 3) := by decide +kernel
theorem dX1_init_48 : decode cX1_init 48 = .ok (.aload_n 0, 1) := by decide +kernel
theorem dX1_init_49 : decode cX1_init 49 = .ok (.iconst 0, 1) := by decide +kernel
theorem dX1_init_50 : decode cX1_init 50 = .ok (.putfield 34, 3) := by decide +kernel
theorem dX1_init_53 : decode cX1_init 53 = .ok (.return_, 1) := by decide +kernel
theorem dX1_read_0 : decode cX1_read 0 = .ok (.aload_n 0, 1) := by decide +kernel
theorem dX1_read_1 : decode cX1_read 1 = .ok (.aload_n 1, 1) := by decide +kernel
theorem dX1_read_2 : decode cX1_read 2 = .ok (.getfield 37, 3) := by decide +kernel
theorem dX1_read_5 : decode cX1_read 5 = .ok (.putfield 21, 3) := by decide +kernel
theorem dX1_read_8 : decode cX1_read 8 = .ok (.aload_n 0, 1) := by decide +kernel
theorem dX1_read_9 : decode cX1_read 9 = .ok (.aload_n 1, 1) := by decide +kernel
theorem dX1_read_10 : decode cX1_read 10 = .ok (.invokevirtual 40, 3) := by decide +kernel
theorem dX1_read_13 : decode cX1_read 13 = .ok (.putfield 28, 3) := by decide +kernel
theorem dX1_read_16 : decode cX1_read 16 = .ok (.aload_n 0, 1) := by decide +kernel
theorem dX1_read_17 : decode cX1_read 17 = .ok (.iconst 0, 1) := by decide +kernel
theorem dX1_read_18 : decode cX1_read 18 = .ok (.putfield 25, 3) := by decide +kernel
theorem dX1_read_21 : decode cX1_read 21 = .ok (.aload_n 0, 1) := by decide +kernel
theorem dX1_read_22 : decode cX1_read 22 = .ok (.iconst 0, 1) := by decide +kernel
theorem dX1_read_23 : decode cX1_read 23 = .ok (.putfield 31, 3) := by decide +kernel
theorem dX1_read_26 : decode cX1_read 26 = .ok (.aload_n 0, 1) := by decide +kernel
theorem dX1_read_27 : decode cX1_read 27 = .ok (.iconst 0, 1) := by decide +kernel
theorem dX1_read_28 : decode cX1_read 28 = .ok (.putfield 34, 3) := by decide +kernel
theorem dX1_read_31 : decode cX1_read 31 = .ok (.iconst 0, 1) := by decide +kernel
theorem dX1_read_32 : decode cX1_read 32 = .ok (.istore_n 2, 1) := by decide +kernel
theorem dX1_read_33 : decode cX1_read 33 = .ok (.iload_n 2, 1) := by decide +kernel
theorem dX1_read_34 : decode cX1_read 34 = .ok (.bipush 8, 2) := by decide +kernel
theorem dX1_read_36 : decode cX1_read 36 = .ok (.if_icmp .ge 55, 3) := by decide +kernel
theorem dX1_read_39 : decode cX1_read 39 = .ok (.aload_n 0, 1) := by decide +kernel
theorem dX1_read_40 : decode cX1_read 40 = .ok (.getfield 9, 3) := by decide +kernel
theorem dX1_read_43 : decode cX1_read 43 = .ok (.iload_n 2, 1) := by decide +kernel
theorem dX1_read_44 : decode cX1_read 44 = .ok (.aload_n 1, 1) := by decide +kernel
theorem dX1_read_45 : decode cX1_read 45 = .ok (.getfield 44, 3) := by decide +kernel
theorem dX1_read_48 : decode cX1_read 48 = .ok (.iload_n 2, 1) := by decide +kernel
theorem dX1_read_49 : decode cX1_read 49 = .ok (.iaload, 1) := by decide +kernel
theorem dX1_read_50 : decode cX1_read 50 = .ok (.iastore, 1) := by decide +kernel
theorem dX1_read_51 : decode cX1_read 51 = .ok (.aload_n 0, 1) := by decide +kernel
theorem dX1_read_52 : decode cX1_read 52 = .ok (.dup, 1) := by decide +kernel
theorem dX1_read_53 : decode cX1_read 53 = .ok (.getfield 25, 3) := by decide +kernel
theorem dX1_read_56 : decode cX1_read 56 = .ok (.aload_n 0, 1) := by decide +kernel
theorem dX1_read_57 : decode cX1_read 57 = .ok (.getfield 9, 3) := by decide +kernel
theorem dX1_read_60 : decode cX1_read 60 = .ok (.iload_n 2, 1) := by decide +kernel
theorem dX1_read_61 : decode cX1_read 61 = .ok (.iaload, 1) := by decide +kernel
theorem dX1_read_62 : decode cX1_read 62 = .ok (.iadd, 1) := by decide +kernel
theorem dX1_read_63 : decode cX1_read 63 = .ok (.putfield 25, 3) := by decide +kernel
theorem dX1_read_66 : decode cX1_read 66 = .ok (.aload_n 0, 1) := by decide +kernel
theorem dX1_read_67 : decode cX1_read 67 = .ok (.dup, 1) := by decide +kernel
theorem dX1_read_68 : decode cX1_read 68 = .ok (.getfield 31, 3) := by decide +kernel
theorem dX1_read_71 : decode cX1_read 71 = .ok (.iconst 0, 1) := by decide +kernel
theorem dX1_read_72 : decode cX1_read 72 = .ok (.aload_n 1, 1) := by decide +kernel
theorem dX1_read_73 : decode cX1_read 73 = .ok (.getfield 45, 3) := by decide +kernel
theorem dX1_read_76 : decode cX1_read 76 = .ok (.iload_n 2, 1) := by decide +kernel
theorem dX1_read_77 : decode cX1_read 77 = .ok (.iaload, 1) := by decide +kernel
theorem dX1_read_78 : decode cX1_read 78 = .ok (.invokestatic 48, 3) := by decide +kernel
theorem dX1_read_81 : decode cX1_read 81 = .ok (.iadd, 1) := by decide +kernel
theorem dX1_read_82 : decode cX1_read 82 = .ok (.putfield 31, 3) := by decide +kernel
theorem dX1_read_85 : decode cX1_read 85 = .ok (.iinc 2 1, 3) := by decide +kernel
theorem dX1_read_88 : decode cX1_read 88 = .ok (.goto (-55), 3) := by decide +kernel
theorem dX1_read_91 : decode cX1_read 91 = .ok (.aload_n 0, 1) := by decide +kernel
theorem dX1_read_92 : decode cX1_read 92 = .ok (.getfield 15, 3) := by decide +kernel
theorem dX1_read_95 : decode cX1_read 95 = .ok (.iconst 0, 1) := by decide +kernel
theorem dX1_read_96 : decode cX1_read 96 = .ok (.invokestatic 54, 3) := by decide +kernel
theorem dX1_read_99 : decode cX1_read 99 = .ok (.aload_n 0, 1) := by decide +kernel
theorem dX1_read_100 : decode cX1_read 100 = .ok (.getfield 18, 3) := by decide +kernel
theorem dX1_read_103 : decode cX1_read 103 = .ok (.iconst 0, 1) := by decide +kernel
theorem dX1_read_104 : decode cX1_read 104 = .ok (.invokestatic 54, 3) := by decide +kernel
theorem dX1_read_107 : decode cX1_read 107 = .ok (.iconst 0, 1) := by decide +kernel
theorem dX1_read_108 : decode cX1_read 108 = .ok (.istore_n 2, 1) := by decide +kernel
theorem dX1_read_109 : decode cX1_read 109 = .ok (.iload_n 2, 1) := by decide +kernel
theorem dX1_read_110 : decode cX1_read 110 = .ok (.aload_n 0, 1) := by decide +kernel
theorem dX1_read_111 : decode cX1_read 111 = .ok (.getfield 21, 3) := by decide +kernel
theorem dX1_read_114 : decode cX1_read 114 = .ok (.if_icmp .ge 35, 3) := by decide +kernel
theorem dX1_read_117 : decode cX1_read 117 = .ok (.iconst 0, 1) := by decide +kernel
theorem dX1_read_118 : decode cX1_read 118 = .ok (.istore_n 3, 1) := by decide +kernel
theorem dX1_read_119 : decode cX1_read 119 = .ok (.iload_n 3, 1) := by decide +kernel
theorem dX1_read_120 : decode cX1_read 120 = .ok (.bipush 8, 2) := by decide +kernel
theorem dX1_read_122 : decode cX1_read 122 = .ok (.if_icmp .ge 21, 3) := by decide +kernel
theorem dX1_read_125 : decode cX1_read 125 = .ok (.aload_n 0, 1) := by decide +kernel
theorem dX1_read_126 : decode cX1_read 126 = .ok (.iload_n 2, 1) := by decide +kernel
theorem dX1_read_127 : decode cX1_read 127 = .ok (.iload_n 3, 1) := by decide +kernel
theorem dX1_read_128 : decode cX1_read 128 = .ok (.aload_n 1, 1) := by decide +kernel
theorem dX1_read_129 : decode cX1_read 129 = .ok (.iload_n 2, 1) := by decide +kernel
theorem dX1_read_130 : decode cX1_read 130 = .ok (.iload_n 3, 1) := by decide +kernel
theorem dX1_read_131 : decode cX1_read 131 = .ok (.invokevirtual 60, 3) := by decide +kernel
theorem dX1_read_134 : decode cX1_read 134 = .ok (.invokevirtual 63, 3) := by decide +kernel
theorem dX1_read_137 : decode cX1_read 137 = .ok (.iinc 3 1, 3) := by decide +kernel
theorem dX1_read_140 : decode cX1_read 140 = .ok (.goto (-21), 3) := by decide +kernel
theorem dX1_read_143 : decode cX1_read 143 = .ok (.iinc 2 1, 3) := by decide +kernel
theorem dX1_read_146 : decode cX1_read 146 = .ok (.goto (-37), 3) := by decide +kernel
theorem dX1_read_149 : decode cX1_read 149 = .ok (.return_, 1) := by decide +kernel
theorem dX1_isCommon_0 : decode cX1_isCommon 0 = .ok (.aload_n 0, 1) := by decide +kernel
theorem dX1_isCommon_1 : decode cX1_isCommon 1 = .ok (.getfield 28, 3) := by decide +kernel
theorem dX1_isCommon_4 : decode cX1_isCommon 4 = .ok (.iconst 1, 1) := by decide +kernel
theorem dX1_isCommon_5 : decode cX1_isCommon 5 = .ok (.iload_n 1, 1) := by decide +kernel
theorem dX1_isCommon_6 : decode cX1_isCommon 6 = .ok (.ishl, 1) := by decide +kernel
theorem dX1_isCommon_7 : decode cX1_isCommon 7 = .ok (.iand, 1) := by decide +kernel
theorem dX1_isCommon_8 : decode cX1_isCommon 8 = .ok (.ifCond .eq 7, 3) := by decide +kernel
theorem dX1_isCommon_11 : decode cX1_isCommon 11 = .ok (.iconst 1, 1) := by decide +kernel
theorem dX1_isCommon_12 : decode cX1_isCommon 12 = .ok (.goto 4, 3) := by decide +kernel
theorem dX1_isCommon_15 : decode cX1_isCommon 15 = .ok (.iconst 0, 1) := by decide +kernel
theorem dX1_isCommon_16 : decode cX1_isCommon 16 = .ok (.ireturn, 1) := by decide +kernel
theorem dX1_scoreOf_0 : decode cX1_scoreOf 0 = .ok (.aload_n 0, 1) := by decide +kernel
theorem dX1_scoreOf_1 : decode cX1_scoreOf 1 = .ok (.getfield 15, 3) := by decide +kernel
theorem dX1_scoreOf_4 : decode cX1_scoreOf 4 = .ok (.iload_n 1, 1) := by decide +kernel
theorem dX1_scoreOf_5 : decode cX1_scoreOf 5 = .ok (.bipush 8, 2) := by decide +kernel
theorem dX1_scoreOf_7 : decode cX1_scoreOf 7 = .ok (.imul, 1) := by decide +kernel
theorem dX1_scoreOf_8 : decode cX1_scoreOf 8 = .ok (.iload_n 2, 1) := by decide +kernel
theorem dX1_scoreOf_9 : decode cX1_scoreOf 9 = .ok (.iadd, 1) := by decide +kernel
theorem dX1_scoreOf_10 : decode cX1_scoreOf 10 = .ok (.iaload, 1) := by decide +kernel
theorem dX1_scoreOf_11 : decode cX1_scoreOf 11 = .ok (.ireturn, 1) := by decide +kernel
theorem dX1_setScore_0 : decode cX1_setScore 0 = .ok (.iload_n 3, 1) := by decide +kernel
theorem dX1_setScore_1 : decode cX1_setScore 1 = .ok (.aload_n 0, 1) := by decide +kernel
theorem dX1_setScore_2 : decode cX1_setScore 2 = .ok (.iload_n 1, 1) := by decide +kernel
theorem dX1_setScore_3 : decode cX1_setScore 3 = .ok (.iload_n 2, 1) := by decide +kernel
theorem dX1_setScore_4 : decode cX1_setScore 4 = .ok (.invokevirtual 67, 3) := by decide +kernel
theorem dX1_setScore_7 : decode cX1_setScore 7 = .ok (.isub, 1) := by decide +kernel
theorem dX1_setScore_8 : decode cX1_setScore 8 = .ok (.istore 4, 2) := by decide +kernel
theorem dX1_setScore_10 : decode cX1_setScore 10 = .ok (.aload_n 0, 1) := by decide +kernel
theorem dX1_setScore_11 : decode cX1_setScore 11 = .ok (.getfield 15, 3) := by decide +kernel
theorem dX1_setScore_14 : decode cX1_setScore 14 = .ok (.iload_n 1, 1) := by decide +kernel
theorem dX1_setScore_15 : decode cX1_setScore 15 = .ok (.bipush 8, 2) := by decide +kernel
theorem dX1_setScore_17 : decode cX1_setScore 17 = .ok (.imul, 1) := by decide +kernel
theorem dX1_setScore_18 : decode cX1_setScore 18 = .ok (.iload_n 2, 1) := by decide +kernel
theorem dX1_setScore_19 : decode cX1_setScore 19 = .ok (.iadd, 1) := by decide +kernel
theorem dX1_setScore_20 : decode cX1_setScore 20 = .ok (.iload_n 3, 1) := by decide +kernel
theorem dX1_setScore_21 : decode cX1_setScore 21 = .ok (.iastore, 1) := by decide +kernel
theorem dX1_setScore_22 : decode cX1_setScore 22 = .ok (.aload_n 0, 1) := by decide +kernel
theorem dX1_setScore_23 : decode cX1_setScore 23 = .ok (.getfield 18, 3) := by decide +kernel
theorem dX1_setScore_26 : decode cX1_setScore 26 = .ok (.iload_n 1, 1) := by decide +kernel
theorem dX1_setScore_27 : decode cX1_setScore 27 = .ok (.dup2, 1) := by decide +kernel
theorem dX1_setScore_28 : decode cX1_setScore 28 = .ok (.iaload, 1) := by decide +kernel
theorem dX1_setScore_29 : decode cX1_setScore 29 = .ok (.iload 4, 2) := by decide +kernel
theorem dX1_setScore_31 : decode cX1_setScore 31 = .ok (.iadd, 1) := by decide +kernel
theorem dX1_setScore_32 : decode cX1_setScore 32 = .ok (.iastore, 1) := by decide +kernel
theorem dX1_setScore_33 : decode cX1_setScore 33 = .ok (.aload_n 0, 1) := by decide +kernel
theorem dX1_setScore_34 : decode cX1_setScore 34 = .ok (.iload_n 2, 1) := by decide +kernel
theorem dX1_setScore_35 : decode cX1_setScore 35 = .ok (.invokevirtual 68, 3) := by decide +kernel
theorem dX1_setScore_38 : decode cX1_setScore 38 = .ok (.ifCond .eq 14, 3) := by decide +kernel
theorem dX1_setScore_41 : decode cX1_setScore 41 = .ok (.aload_n 0, 1) := by decide +kernel
theorem dX1_setScore_42 : decode cX1_setScore 42 = .ok (.dup, 1) := by decide +kernel
theorem dX1_setScore_43 : decode cX1_setScore 43 = .ok (.getfield 34, 3) := by decide +kernel
theorem dX1_setScore_46 : decode cX1_setScore 46 = .ok (.iload 4, 2) := by decide +kernel
theorem dX1_setScore_48 : decode cX1_setScore 48 = .ok (.iadd, 1) := by decide +kernel
theorem dX1_setScore_49 : decode cX1_setScore 49 = .ok (.putfield 34, 3) := by decide +kernel
theorem dX1_setScore_52 : decode cX1_setScore 52 = .ok (.return_, 1) := by decide +kernel
theorem dX1_strike_0 : decode cX1_strike 0 = .ok (.aload_n 0, 1) := by decide +kernel
theorem dX1_strike_1 : decode cX1_strike 1 = .ok (.dup, 1) := by decide +kernel
theorem dX1_strike_2 : decode cX1_strike 2 = .ok (.getfield 25, 3) := by decide +kernel
theorem dX1_strike_5 : decode cX1_strike 5 = .ok (.aload_n 0, 1) := by decide +kernel
theorem dX1_strike_6 : decode cX1_strike 6 = .ok (.getfield 9, 3) := by decide +kernel
theorem dX1_strike_9 : decode cX1_strike 9 = .ok (.iload_n 1, 1) := by decide +kernel
theorem dX1_strike_10 : decode cX1_strike 10 = .ok (.iaload, 1) := by decide +kernel
theorem dX1_strike_11 : decode cX1_strike 11 = .ok (.isub, 1) := by decide +kernel
theorem dX1_strike_12 : decode cX1_strike 12 = .ok (.putfield 25, 3) := by decide +kernel
theorem dX1_strike_15 : decode cX1_strike 15 = .ok (.aload_n 0, 1) := by decide +kernel
theorem dX1_strike_16 : decode cX1_strike 16 = .ok (.getfield 9, 3) := by decide +kernel
theorem dX1_strike_19 : decode cX1_strike 19 = .ok (.iload_n 1, 1) := by decide +kernel
theorem dX1_strike_20 : decode cX1_strike 20 = .ok (.iconst 0, 1) := by decide +kernel
theorem dX1_strike_21 : decode cX1_strike 21 = .ok (.iastore, 1) := by decide +kernel
theorem dX1_strike_22 : decode cX1_strike 22 = .ok (.iconst 0, 1) := by decide +kernel
theorem dX1_strike_23 : decode cX1_strike 23 = .ok (.istore_n 2, 1) := by decide +kernel
theorem dX1_strike_24 : decode cX1_strike 24 = .ok (.iload_n 2, 1) := by decide +kernel
theorem dX1_strike_25 : decode cX1_strike 25 = .ok (.aload_n 0, 1) := by decide +kernel
theorem dX1_strike_26 : decode cX1_strike 26 = .ok (.getfield 21, 3) := by decide +kernel
theorem dX1_strike_29 : decode cX1_strike 29 = .ok (.if_icmp .ge 16, 3) := by decide +kernel
theorem dX1_strike_32 : decode cX1_strike 32 = .ok (.aload_n 0, 1) := by decide +kernel
theorem dX1_strike_33 : decode cX1_strike 33 = .ok (.iload_n 2, 1) := by decide +kernel
theorem dX1_strike_34 : decode cX1_strike 34 = .ok (.iload_n 1, 1) := by decide +kernel
theorem dX1_strike_35 : decode cX1_strike 35 = .ok (.iconst 0, 1) := by decide +kernel
theorem dX1_strike_36 : decode cX1_strike 36 = .ok (.invokevirtual 63, 3) := by decide +kernel
theorem dX1_strike_39 : decode cX1_strike 39 = .ok (.iinc 2 1, 3) := by decide +kernel
theorem dX1_strike_42 : decode cX1_strike 42 = .ok (.goto (-18), 3) := by decide +kernel
theorem dX1_strike_45 : decode cX1_strike 45 = .ok (.return_, 1) := by decide +kernel
theorem dX1_join_0 : decode cX1_join 0 = .ok (.aload_n 0, 1) := by decide +kernel
theorem dX1_join_1 : decode cX1_join 1 = .ok (.getfield 21, 3) := by decide +kernel
theorem dX1_join_4 : decode cX1_join 4 = .ok (.istore_n 2, 1) := by decide +kernel
theorem dX1_join_5 : decode cX1_join 5 = .ok (.aload_n 0, 1) := by decide +kernel
theorem dX1_join_6 : decode cX1_join 6 = .ok (.dup, 1) := by decide +kernel
theorem dX1_join_7 : decode cX1_join 7 = .ok (.getfield 21, 3) := by decide +kernel
theorem dX1_join_10 : decode cX1_join 10 = .ok (.iconst 1, 1) := by decide +kernel
theorem dX1_join_11 : decode cX1_join 11 = .ok (.iadd, 1) := by decide +kernel
theorem dX1_join_12 : decode cX1_join 12 = .ok (.putfield 21, 3) := by decide +kernel
theorem dX1_join_15 : decode cX1_join 15 = .ok (.iconst 0, 1) := by decide +kernel
theorem dX1_join_16 : decode cX1_join 16 = .ok (.istore_n 3, 1) := by decide +kernel
theorem dX1_join_17 : decode cX1_join 17 = .ok (.iload_n 3, 1) := by decide +kernel
theorem dX1_join_18 : decode cX1_join 18 = .ok (.bipush 8, 2) := by decide +kernel
theorem dX1_join_20 : decode cX1_join 20 = .ok (.if_icmp .ge 25, 3) := by decide +kernel
theorem dX1_join_23 : decode cX1_join 23 = .ok (.aload_n 0, 1) := by decide +kernel
theorem dX1_join_24 : decode cX1_join 24 = .ok (.iload_n 2, 1) := by decide +kernel
theorem dX1_join_25 : decode cX1_join 25 = .ok (.iload_n 3, 1) := by decide +kernel
theorem dX1_join_26 : decode cX1_join 26 = .ok (.iload_n 1, 1) := by decide +kernel
theorem dX1_join_27 : decode cX1_join 27 = .ok (.aload_n 0, 1) := by decide +kernel
theorem dX1_join_28 : decode cX1_join 28 = .ok (.getfield 9, 3) := by decide +kernel
theorem dX1_join_31 : decode cX1_join 31 = .ok (.iload_n 3, 1) := by decide +kernel
theorem dX1_join_32 : decode cX1_join 32 = .ok (.iaload, 1) := by decide +kernel
theorem dX1_join_33 : decode cX1_join 33 = .ok (.invokestatic 72, 3) := by decide +kernel
theorem dX1_join_36 : decode cX1_join 36 = .ok (.invokevirtual 63, 3) := by decide +kernel
theorem dX1_join_39 : decode cX1_join 39 = .ok (.iinc 3 1, 3) := by decide +kernel
theorem dX1_join_42 : decode cX1_join 42 = .ok (.goto (-25), 3) := by decide +kernel
theorem dX1_join_45 : decode cX1_join 45 = .ok (.return_, 1) := by decide +kernel
theorem dX1_greatestRaw_0 : decode cX1_greatestRaw 0 = .ok (.iconst 0, 1) := by decide +kernel
theorem dX1_greatestRaw_1 : decode cX1_greatestRaw 1 = .ok (.istore_n 1, 1) := by decide +kernel
theorem dX1_greatestRaw_2 : decode cX1_greatestRaw 2 = .ok (.iconst 0, 1) := by decide +kernel
theorem dX1_greatestRaw_3 : decode cX1_greatestRaw 3 = .ok (.istore_n 2, 1) := by decide +kernel
theorem dX1_greatestRaw_4 : decode cX1_greatestRaw 4 = .ok (.iload_n 2, 1) := by decide +kernel
theorem dX1_greatestRaw_5 : decode cX1_greatestRaw 5 = .ok (.aload_n 0, 1) := by decide +kernel
theorem dX1_greatestRaw_6 : decode cX1_greatestRaw 6 = .ok (.getfield 21, 3) := by decide +kernel
theorem dX1_greatestRaw_9 : decode cX1_greatestRaw 9 = .ok (.if_icmp .ge 20, 3) := by decide +kernel
theorem dX1_greatestRaw_12 : decode cX1_greatestRaw 12 = .ok (.iload_n 1, 1) := by decide +kernel
theorem dX1_greatestRaw_13 : decode cX1_greatestRaw 13 = .ok (.aload_n 0, 1) := by decide +kernel
theorem dX1_greatestRaw_14 : decode cX1_greatestRaw 14 = .ok (.getfield 18, 3) := by decide +kernel
theorem dX1_greatestRaw_17 : decode cX1_greatestRaw 17 = .ok (.iload_n 2, 1) := by decide +kernel
theorem dX1_greatestRaw_18 : decode cX1_greatestRaw 18 = .ok (.iaload, 1) := by decide +kernel
theorem dX1_greatestRaw_19 : decode cX1_greatestRaw 19 = .ok (.invokestatic 48, 3) := by decide +kernel
theorem dX1_greatestRaw_22 : decode cX1_greatestRaw 22 = .ok (.istore_n 1, 1) := by decide +kernel
theorem dX1_greatestRaw_23 : decode cX1_greatestRaw 23 = .ok (.iinc 2 1, 3) := by decide +kernel
theorem dX1_greatestRaw_26 : decode cX1_greatestRaw 26 = .ok (.goto (-22), 3) := by decide +kernel
theorem dX1_greatestRaw_29 : decode cX1_greatestRaw 29 = .ok (.iload_n 1, 1) := by decide +kernel
theorem dX1_greatestRaw_30 : decode cX1_greatestRaw 30 = .ok (.ireturn, 1) := by decide +kernel
theorem dX1_sumOfRaws_0 : decode cX1_sumOfRaws 0 = .ok (.iconst 0, 1) := by decide +kernel
theorem dX1_sumOfRaws_1 : decode cX1_sumOfRaws 1 = .ok (.istore_n 1, 1) := by decide +kernel
theorem dX1_sumOfRaws_2 : decode cX1_sumOfRaws 2 = .ok (.iconst 0, 1) := by decide +kernel
theorem dX1_sumOfRaws_3 : decode cX1_sumOfRaws 3 = .ok (.istore_n 2, 1) := by decide +kernel
theorem dX1_sumOfRaws_4 : decode cX1_sumOfRaws 4 = .ok (.iload_n 2, 1) := by decide +kernel
theorem dX1_sumOfRaws_5 : decode cX1_sumOfRaws 5 = .ok (.aload_n 0, 1) := by decide +kernel
theorem dX1_sumOfRaws_6 : decode cX1_sumOfRaws 6 = .ok (.getfield 21, 3) := by decide +kernel
theorem dX1_sumOfRaws_9 : decode cX1_sumOfRaws 9 = .ok (.if_icmp .ge 18, 3) := by decide +kernel
theorem dX1_sumOfRaws_12 : decode cX1_sumOfRaws 12 = .ok (.iload_n 1, 1) := by decide +kernel
theorem dX1_sumOfRaws_13 : decode cX1_sumOfRaws 13 = .ok (.aload_n 0, 1) := by decide +kernel
theorem dX1_sumOfRaws_14 : decode cX1_sumOfRaws 14 = .ok (.getfield 18, 3) := by decide +kernel
theorem dX1_sumOfRaws_17 : decode cX1_sumOfRaws 17 = .ok (.iload_n 2, 1) := by decide +kernel
theorem dX1_sumOfRaws_18 : decode cX1_sumOfRaws 18 = .ok (.iaload, 1) := by decide +kernel
theorem dX1_sumOfRaws_19 : decode cX1_sumOfRaws 19 = .ok (.iadd, 1) := by decide +kernel
theorem dX1_sumOfRaws_20 : decode cX1_sumOfRaws 20 = .ok (.istore_n 1, 1) := by decide +kernel
theorem dX1_sumOfRaws_21 : decode cX1_sumOfRaws 21 = .ok (.iinc 2 1, 3) := by decide +kernel
theorem dX1_sumOfRaws_24 : decode cX1_sumOfRaws 24 = .ok (.goto (-20), 3) := by decide +kernel
theorem dX1_sumOfRaws_27 : decode cX1_sumOfRaws 27 = .ok (.iload_n 1, 1) := by decide +kernel
theorem dX1_sumOfRaws_28 : decode cX1_sumOfRaws 28 = .ok (.ireturn, 1) := by decide +kernel
theorem dX1_newMean_0 : decode cX1_newMean 0 = .ok (.aload_n 0, 1) := by decide +kernel
theorem dX1_newMean_1 : decode cX1_newMean 1 = .ok (.getfield 21, 3) := by decide +kernel
theorem dX1_newMean_4 : decode cX1_newMean 4 = .ok (.ifCond .le 18, 3) := by decide +kernel
theorem dX1_newMean_7 : decode cX1_newMean 7 = .ok (.bipush 10, 2) := by decide +kernel
theorem dX1_newMean_9 : decode cX1_newMean 9 = .ok (.aload_n 0, 1) := by decide +kernel
theorem dX1_newMean_10 : decode cX1_newMean 10 = .ok (.getfield 34, 3) := by decide +kernel
theorem dX1_newMean_13 : decode cX1_newMean 13 = .ok (.imul, 1) := by decide +kernel
theorem dX1_newMean_14 : decode cX1_newMean 14 = .ok (.aload_n 0, 1) := by decide +kernel
theorem dX1_newMean_15 : decode cX1_newMean 15 = .ok (.getfield 21, 3) := by decide +kernel
theorem dX1_newMean_18 : decode cX1_newMean 18 = .ok (.idiv, 1) := by decide +kernel
theorem dX1_newMean_19 : decode cX1_newMean 19 = .ok (.goto 4, 3) := by decide +kernel
theorem dX1_newMean_22 : decode cX1_newMean 22 = .ok (.iconst 0, 1) := by decide +kernel
theorem dX1_newMean_23 : decode cX1_newMean 23 = .ok (.ireturn, 1) := by decide +kernel
theorem dX1_spreadIn_0 : decode cX1_spreadIn 0 = .ok (.iconst 0, 1) := by decide +kernel
theorem dX1_spreadIn_1 : decode cX1_spreadIn 1 = .ok (.istore_n 2, 1) := by decide +kernel
theorem dX1_spreadIn_2 : decode cX1_spreadIn 2 = .ok (.iconst 0, 1) := by decide +kernel
theorem dX1_spreadIn_3 : decode cX1_spreadIn 3 = .ok (.istore_n 3, 1) := by decide +kernel
theorem dX1_spreadIn_4 : decode cX1_spreadIn 4 = .ok (.iload_n 3, 1) := by decide +kernel
theorem dX1_spreadIn_5 : decode cX1_spreadIn 5 = .ok (.aload_n 0, 1) := by decide +kernel
theorem dX1_spreadIn_6 : decode cX1_spreadIn 6 = .ok (.getfield 21, 3) := by decide +kernel
theorem dX1_spreadIn_9 : decode cX1_spreadIn 9 = .ok (.if_icmp .ge 49, 3) := by decide +kernel
theorem dX1_spreadIn_12 : decode cX1_spreadIn 12 = .ok (.iload_n 3, 1) := by decide +kernel
theorem dX1_spreadIn_13 : decode cX1_spreadIn 13 = .ok (.iconst 1, 1) := by decide +kernel
theorem dX1_spreadIn_14 : decode cX1_spreadIn 14 = .ok (.iadd, 1) := by decide +kernel
theorem dX1_spreadIn_15 : decode cX1_spreadIn 15 = .ok (.istore 4, 2) := by decide +kernel
theorem dX1_spreadIn_17 : decode cX1_spreadIn 17 = .ok (.iload 4, 2) := by decide +kernel
theorem dX1_spreadIn_19 : decode cX1_spreadIn 19 = .ok (.aload_n 0, 1) := by decide +kernel
theorem dX1_spreadIn_20 : decode cX1_spreadIn 20 = .ok (.getfield 21, 3) := by decide +kernel
theorem dX1_spreadIn_23 : decode cX1_spreadIn 23 = .ok (.if_icmp .ge 29, 3) := by decide +kernel
theorem dX1_spreadIn_26 : decode cX1_spreadIn 26 = .ok (.iload_n 2, 1) := by decide +kernel
theorem dX1_spreadIn_27 : decode cX1_spreadIn 27 = .ok (.aload_n 0, 1) := by decide +kernel
theorem dX1_spreadIn_28 : decode cX1_spreadIn 28 = .ok (.iload_n 3, 1) := by decide +kernel
theorem dX1_spreadIn_29 : decode cX1_spreadIn 29 = .ok (.iload_n 1, 1) := by decide +kernel
theorem dX1_spreadIn_30 : decode cX1_spreadIn 30 = .ok (.invokevirtual 67, 3) := by decide +kernel
theorem dX1_spreadIn_33 : decode cX1_spreadIn 33 = .ok (.aload_n 0, 1) := by decide +kernel
theorem dX1_spreadIn_34 : decode cX1_spreadIn 34 = .ok (.iload 4, 2) := by decide +kernel
theorem dX1_spreadIn_36 : decode cX1_spreadIn 36 = .ok (.iload_n 1, 1) := by decide +kernel
theorem dX1_spreadIn_37 : decode cX1_spreadIn 37 = .ok (.invokevirtual 67, 3) := by decide +kernel
theorem dX1_spreadIn_40 : decode cX1_spreadIn 40 = .ok (.isub, 1) := by decide +kernel
theorem dX1_spreadIn_41 : decode cX1_spreadIn 41 = .ok (.invokestatic 75, 3) := by decide +kernel
theorem dX1_spreadIn_44 : decode cX1_spreadIn 44 = .ok (.iadd, 1) := by decide +kernel
theorem dX1_spreadIn_45 : decode cX1_spreadIn 45 = .ok (.istore_n 2, 1) := by decide +kernel
theorem dX1_spreadIn_46 : decode cX1_spreadIn 46 = .ok (.iinc 4 1, 3) := by decide +kernel
theorem dX1_spreadIn_49 : decode cX1_spreadIn 49 = .ok (.goto (-32), 3) := by decide +kernel
theorem dX1_spreadIn_52 : decode cX1_spreadIn 52 = .ok (.iinc 3 1, 3) := by decide +kernel
theorem dX1_spreadIn_55 : decode cX1_spreadIn 55 = .ok (.goto (-51), 3) := by decide +kernel
theorem dX1_spreadIn_58 : decode cX1_spreadIn 58 = .ok (.iload_n 2, 1) := by decide +kernel
theorem dX1_spreadIn_59 : decode cX1_spreadIn 59 = .ok (.ireturn, 1) := by decide +kernel
theorem dX1_markAll_0 : decode cX1_markAll 0 = .ok (.iconst 0, 1) := by decide +kernel
theorem dX1_markAll_1 : decode cX1_markAll 1 = .ok (.istore 4, 2) := by decide +kernel
theorem dX1_markAll_3 : decode cX1_markAll 3 = .ok (.iload 4, 2) := by decide +kernel
theorem dX1_markAll_5 : decode cX1_markAll 5 = .ok (.aload_n 0, 1) := by decide +kernel
theorem dX1_markAll_6 : decode cX1_markAll 6 = .ok (.getfield 21, 3) := by decide +kernel
theorem dX1_markAll_9 : decode cX1_markAll 9 = .ok (.if_icmp .ge 21, 3) := by decide +kernel
theorem dX1_markAll_12 : decode cX1_markAll 12 = .ok (.aload_n 3, 1) := by decide +kernel
theorem dX1_markAll_13 : decode cX1_markAll 13 = .ok (.iload 4, 2) := by decide +kernel
theorem dX1_markAll_15 : decode cX1_markAll 15 = .ok (.aload_n 0, 1) := by decide +kernel
theorem dX1_markAll_16 : decode cX1_markAll 16 = .ok (.iload_n 1, 1) := by decide +kernel
theorem dX1_markAll_17 : decode cX1_markAll 17 = .ok (.iload_n 2, 1) := by decide +kernel
theorem dX1_markAll_18 : decode cX1_markAll 18 = .ok (.iload 4, 2) := by decide +kernel
theorem dX1_markAll_20 : decode cX1_markAll 20 = .ok (.invokevirtual 79, 3) := by decide +kernel
theorem dX1_markAll_23 : decode cX1_markAll 23 = .ok (.iastore, 1) := by decide +kernel
theorem dX1_markAll_24 : decode cX1_markAll 24 = .ok (.iinc 4 1, 3) := by decide +kernel
theorem dX1_markAll_27 : decode cX1_markAll 27 = .ok (.goto (-24), 3) := by decide +kernel
theorem dX1_markAll_30 : decode cX1_markAll 30 = .ok (.return_, 1) := by decide +kernel
theorem dX1_markOf_0 : decode cX1_markOf 0 = .ok (.iload_n 1, 1) := by decide +kernel
theorem dX1_markOf_1 : decode cX1_markOf 1 = .ok (.tableswitch 96 1 6 #[39, 55, 61, 73, 80, 86], 39) := by decide +kernel
theorem dX1_markOf_40 : decode cX1_markOf 40 = .ok (.aload_n 0, 1) := by decide +kernel
theorem dX1_markOf_41 : decode cX1_markOf 41 = .ok (.getfield 18, 3) := by decide +kernel
theorem dX1_markOf_44 : decode cX1_markOf 44 = .ok (.iload_n 3, 1) := by decide +kernel
theorem dX1_markOf_45 : decode cX1_markOf 45 = .ok (.iaload, 1) := by decide +kernel
theorem dX1_markOf_46 : decode cX1_markOf 46 = .ok (.iload_n 2, 1) := by decide +kernel
theorem dX1_markOf_47 : decode cX1_markOf 47 = .ok (.iadd, 1) := by decide +kernel
theorem dX1_markOf_48 : decode cX1_markOf 48 = .ok (.aload_n 0, 1) := by decide +kernel
theorem dX1_markOf_49 : decode cX1_markOf 49 = .ok (.getfield 25, 3) := by decide +kernel
theorem dX1_markOf_52 : decode cX1_markOf 52 = .ok (.invokestatic 72, 3) := by decide +kernel
theorem dX1_markOf_55 : decode cX1_markOf 55 = .ok (.ireturn, 1) := by decide +kernel
theorem dX1_markOf_56 : decode cX1_markOf 56 = .ok (.aload_n 0, 1) := by decide +kernel
theorem dX1_markOf_57 : decode cX1_markOf 57 = .ok (.iload_n 3, 1) := by decide +kernel
theorem dX1_markOf_58 : decode cX1_markOf 58 = .ok (.invokevirtual 83, 3) := by decide +kernel
theorem dX1_markOf_61 : decode cX1_markOf 61 = .ok (.ireturn, 1) := by decide +kernel
theorem dX1_markOf_62 : decode cX1_markOf 62 = .ok (.bipush 100, 2) := by decide +kernel
theorem dX1_markOf_64 : decode cX1_markOf 64 = .ok (.aload_n 0, 1) := by decide +kernel
theorem dX1_markOf_65 : decode cX1_markOf 65 = .ok (.iload_n 3, 1) := by decide +kernel
theorem dX1_markOf_66 : decode cX1_markOf 66 = .ok (.invokevirtual 83, 3) := by decide +kernel
theorem dX1_markOf_69 : decode cX1_markOf 69 = .ok (.imul, 1) := by decide +kernel
theorem dX1_markOf_70 : decode cX1_markOf 70 = .ok (.invokestatic 86, 3) := by decide +kernel
theorem dX1_markOf_73 : decode cX1_markOf 73 = .ok (.ireturn, 1) := by decide +kernel
theorem dX1_markOf_74 : decode cX1_markOf 74 = .ok (.aload_n 0, 1) := by decide +kernel
theorem dX1_markOf_75 : decode cX1_markOf 75 = .ok (.iload_n 2, 1) := by decide +kernel
theorem dX1_markOf_76 : decode cX1_markOf 76 = .ok (.iload_n 3, 1) := by decide +kernel
theorem dX1_markOf_77 : decode cX1_markOf 77 = .ok (.invokevirtual 89, 3) := by decide +kernel
theorem dX1_markOf_80 : decode cX1_markOf 80 = .ok (.ireturn, 1) := by decide +kernel
theorem dX1_markOf_81 : decode cX1_markOf 81 = .ok (.aload_n 0, 1) := by decide +kernel
theorem dX1_markOf_82 : decode cX1_markOf 82 = .ok (.iload_n 3, 1) := by decide +kernel
theorem dX1_markOf_83 : decode cX1_markOf 83 = .ok (.invokevirtual 92, 3) := by decide +kernel
theorem dX1_markOf_86 : decode cX1_markOf 86 = .ok (.ireturn, 1) := by decide +kernel
theorem dX1_markOf_87 : decode cX1_markOf 87 = .ok (.aload_n 0, 1) := by decide +kernel
theorem dX1_markOf_88 : decode cX1_markOf 88 = .ok (.iload_n 2, 1) := by decide +kernel
theorem dX1_markOf_89 : decode cX1_markOf 89 = .ok (.bipush 8, 2) := by decide +kernel
theorem dX1_markOf_91 : decode cX1_markOf 91 = .ok (.irem, 1) := by decide +kernel
theorem dX1_markOf_92 : decode cX1_markOf 92 = .ok (.iload_n 3, 1) := by decide +kernel
theorem dX1_markOf_93 : decode cX1_markOf 93 = .ok (.invokevirtual 95, 3) := by decide +kernel
theorem dX1_markOf_96 : decode cX1_markOf 96 = .ok (.ireturn, 1) := by decide +kernel
theorem dX1_markOf_97 : decode cX1_markOf 97 = .ok (.aload_n 0, 1) := by decide +kernel
theorem dX1_markOf_98 : decode cX1_markOf 98 = .ok (.getfield 18, 3) := by decide +kernel
theorem dX1_markOf_101 : decode cX1_markOf 101 = .ok (.iload_n 3, 1) := by decide +kernel
theorem dX1_markOf_102 : decode cX1_markOf 102 = .ok (.iaload, 1) := by decide +kernel
theorem dX1_markOf_103 : decode cX1_markOf 103 = .ok (.ireturn, 1) := by decide +kernel
theorem dX1_stretched_0 : decode cX1_stretched 0 = .ok (.aload_n 0, 1) := by decide +kernel
theorem dX1_stretched_1 : decode cX1_stretched 1 = .ok (.invokevirtual 98, 3) := by decide +kernel
theorem dX1_stretched_4 : decode cX1_stretched 4 = .ok (.istore_n 2, 1) := by decide +kernel
theorem dX1_stretched_5 : decode cX1_stretched 5 = .ok (.iload_n 2, 1) := by decide +kernel
theorem dX1_stretched_6 : decode cX1_stretched 6 = .ok (.ifCond .le 17, 3) := by decide +kernel
theorem dX1_stretched_9 : decode cX1_stretched 9 = .ok (.bipush 100, 2) := by decide +kernel
theorem dX1_stretched_11 : decode cX1_stretched 11 = .ok (.aload_n 0, 1) := by decide +kernel
theorem dX1_stretched_12 : decode cX1_stretched 12 = .ok (.getfield 18, 3) := by decide +kernel
theorem dX1_stretched_15 : decode cX1_stretched 15 = .ok (.iload_n 1, 1) := by decide +kernel
theorem dX1_stretched_16 : decode cX1_stretched 16 = .ok (.iaload, 1) := by decide +kernel
theorem dX1_stretched_17 : decode cX1_stretched 17 = .ok (.imul, 1) := by decide +kernel
theorem dX1_stretched_18 : decode cX1_stretched 18 = .ok (.iload_n 2, 1) := by decide +kernel
theorem dX1_stretched_19 : decode cX1_stretched 19 = .ok (.idiv, 1) := by decide +kernel
theorem dX1_stretched_20 : decode cX1_stretched 20 = .ok (.goto 4, 3) := by decide +kernel
theorem dX1_stretched_23 : decode cX1_stretched 23 = .ok (.iconst 0, 1) := by decide +kernel
theorem dX1_stretched_24 : decode cX1_stretched 24 = .ok (.ireturn, 1) := by decide +kernel
theorem dX1_rootOf_0 : decode cX1_rootOf 0 = .ok (.iconst 0, 1) := by decide +kernel
theorem dX1_rootOf_1 : decode cX1_rootOf 1 = .ok (.istore_n 1, 1) := by decide +kernel
theorem dX1_rootOf_2 : decode cX1_rootOf 2 = .ok (.iload_n 1, 1) := by decide +kernel
theorem dX1_rootOf_3 : decode cX1_rootOf 3 = .ok (.bipush 100, 2) := by decide +kernel
theorem dX1_rootOf_5 : decode cX1_rootOf 5 = .ok (.if_icmp .ge 20, 3) := by decide +kernel
theorem dX1_rootOf_8 : decode cX1_rootOf 8 = .ok (.iload_n 1, 1) := by decide +kernel
theorem dX1_rootOf_9 : decode cX1_rootOf 9 = .ok (.iconst 1, 1) := by decide +kernel
theorem dX1_rootOf_10 : decode cX1_rootOf 10 = .ok (.iadd, 1) := by decide +kernel
theorem dX1_rootOf_11 : decode cX1_rootOf 11 = .ok (.iload_n 1, 1) := by decide +kernel
theorem dX1_rootOf_12 : decode cX1_rootOf 12 = .ok (.iconst 1, 1) := by decide +kernel
theorem dX1_rootOf_13 : decode cX1_rootOf 13 = .ok (.iadd, 1) := by decide +kernel
theorem dX1_rootOf_14 : decode cX1_rootOf 14 = .ok (.imul, 1) := by decide +kernel
theorem dX1_rootOf_15 : decode cX1_rootOf 15 = .ok (.iload_n 0, 1) := by decide +kernel
theorem dX1_rootOf_16 : decode cX1_rootOf 16 = .ok (.if_icmp .gt 9, 3) := by decide +kernel
theorem dX1_rootOf_19 : decode cX1_rootOf 19 = .ok (.iinc 1 1, 3) := by decide +kernel
theorem dX1_rootOf_22 : decode cX1_rootOf 22 = .ok (.goto (-20), 3) := by decide +kernel
theorem dX1_rootOf_25 : decode cX1_rootOf 25 = .ok (.iload_n 1, 1) := by decide +kernel
theorem dX1_rootOf_26 : decode cX1_rootOf 26 = .ok (.ireturn, 1) := by decide +kernel
theorem dX1_shared_0 : decode cX1_shared 0 = .ok (.iconst 1, 1) := by decide +kernel
theorem dX1_shared_1 : decode cX1_shared 1 = .ok (.istore_n 3, 1) := by decide +kernel
theorem dX1_shared_2 : decode cX1_shared 2 = .ok (.iconst 0, 1) := by decide +kernel
theorem dX1_shared_3 : decode cX1_shared 3 = .ok (.istore 4, 2) := by decide +kernel
theorem dX1_shared_5 : decode cX1_shared 5 = .ok (.iload 4, 2) := by decide +kernel
theorem dX1_shared_7 : decode cX1_shared 7 = .ok (.aload_n 0, 1) := by decide +kernel
theorem dX1_shared_8 : decode cX1_shared 8 = .ok (.getfield 21, 3) := by decide +kernel
theorem dX1_shared_11 : decode cX1_shared 11 = .ok (.if_icmp .ge 28, 3) := by decide +kernel
theorem dX1_shared_14 : decode cX1_shared 14 = .ok (.aload_n 0, 1) := by decide +kernel
theorem dX1_shared_15 : decode cX1_shared 15 = .ok (.getfield 18, 3) := by decide +kernel
theorem dX1_shared_18 : decode cX1_shared 18 = .ok (.iload 4, 2) := by decide +kernel
theorem dX1_shared_20 : decode cX1_shared 20 = .ok (.iaload, 1) := by decide +kernel
theorem dX1_shared_21 : decode cX1_shared 21 = .ok (.aload_n 0, 1) := by decide +kernel
theorem dX1_shared_22 : decode cX1_shared 22 = .ok (.getfield 18, 3) := by decide +kernel
theorem dX1_shared_25 : decode cX1_shared 25 = .ok (.iload_n 2, 1) := by decide +kernel
theorem dX1_shared_26 : decode cX1_shared 26 = .ok (.iaload, 1) := by decide +kernel
theorem dX1_shared_27 : decode cX1_shared 27 = .ok (.if_icmp .le 6, 3) := by decide +kernel
theorem dX1_shared_30 : decode cX1_shared 30 = .ok (.iinc 3 1, 3) := by decide +kernel
theorem dX1_shared_33 : decode cX1_shared 33 = .ok (.iinc 4 1, 3) := by decide +kernel
theorem dX1_shared_36 : decode cX1_shared 36 = .ok (.goto (-31), 3) := by decide +kernel
theorem dX1_shared_39 : decode cX1_shared 39 = .ok (.bipush 100, 2) := by decide +kernel
theorem dX1_shared_41 : decode cX1_shared 41 = .ok (.iload_n 3, 1) := by decide +kernel
theorem dX1_shared_42 : decode cX1_shared 42 = .ok (.imul, 1) := by decide +kernel
theorem dX1_shared_43 : decode cX1_shared 43 = .ok (.iload_n 1, 1) := by decide +kernel
theorem dX1_shared_44 : decode cX1_shared 44 = .ok (.aload_n 0, 1) := by decide +kernel
theorem dX1_shared_45 : decode cX1_shared 45 = .ok (.getfield 21, 3) := by decide +kernel
theorem dX1_shared_48 : decode cX1_shared 48 = .ok (.imul, 1) := by decide +kernel
theorem dX1_shared_49 : decode cX1_shared 49 = .ok (.if_icmp .gt 6, 3) := by decide +kernel
theorem dX1_shared_52 : decode cX1_shared 52 = .ok (.bipush 100, 2) := by decide +kernel
theorem dX1_shared_54 : decode cX1_shared 54 = .ok (.ireturn, 1) := by decide +kernel
theorem dX1_shared_55 : decode cX1_shared 55 = .ok (.bipush 100, 2) := by decide +kernel
theorem dX1_shared_57 : decode cX1_shared 57 = .ok (.iload_n 3, 1) := by decide +kernel
theorem dX1_shared_58 : decode cX1_shared 58 = .ok (.imul, 1) := by decide +kernel
theorem dX1_shared_59 : decode cX1_shared 59 = .ok (.iload_n 1, 1) := by decide +kernel
theorem dX1_shared_60 : decode cX1_shared 60 = .ok (.bipush 100, 2) := by decide +kernel
theorem dX1_shared_62 : decode cX1_shared 62 = .ok (.iadd, 1) := by decide +kernel
theorem dX1_shared_63 : decode cX1_shared 63 = .ok (.iconst 2, 1) := by decide +kernel
theorem dX1_shared_64 : decode cX1_shared 64 = .ok (.idiv, 1) := by decide +kernel
theorem dX1_shared_65 : decode cX1_shared 65 = .ok (.aload_n 0, 1) := by decide +kernel
theorem dX1_shared_66 : decode cX1_shared 66 = .ok (.getfield 21, 3) := by decide +kernel
theorem dX1_shared_69 : decode cX1_shared 69 = .ok (.imul, 1) := by decide +kernel
theorem dX1_shared_70 : decode cX1_shared 70 = .ok (.if_icmp .gt 8, 3) := by decide +kernel
theorem dX1_shared_73 : decode cX1_shared 73 = .ok (.bipush 60, 2) := by decide +kernel
theorem dX1_shared_75 : decode cX1_shared 75 = .ok (.goto 5, 3) := by decide +kernel
theorem dX1_shared_78 : decode cX1_shared 78 = .ok (.bipush 30, 2) := by decide +kernel
theorem dX1_shared_80 : decode cX1_shared 80 = .ok (.ireturn, 1) := by decide +kernel
theorem dX1_linked_0 : decode cX1_linked 0 = .ok (.aload_n 0, 1) := by decide +kernel
theorem dX1_linked_1 : decode cX1_linked 1 = .ok (.getfield 18, 3) := by decide +kernel
theorem dX1_linked_4 : decode cX1_linked 4 = .ok (.iload_n 1, 1) := by decide +kernel
theorem dX1_linked_5 : decode cX1_linked 5 = .ok (.iaload, 1) := by decide +kernel
theorem dX1_linked_6 : decode cX1_linked 6 = .ok (.aload_n 0, 1) := by decide +kernel
theorem dX1_linked_7 : decode cX1_linked 7 = .ok (.getfield 31, 3) := by decide +kernel
theorem dX1_linked_10 : decode cX1_linked 10 = .ok (.aload_n 0, 1) := by decide +kernel
theorem dX1_linked_11 : decode cX1_linked 11 = .ok (.invokevirtual 101, 3) := by decide +kernel
theorem dX1_linked_14 : decode cX1_linked 14 = .ok (.isub, 1) := by decide +kernel
theorem dX1_linked_15 : decode cX1_linked 15 = .ok (.bipush 10, 2) := by decide +kernel
theorem dX1_linked_17 : decode cX1_linked 17 = .ok (.idiv, 1) := by decide +kernel
theorem dX1_linked_18 : decode cX1_linked 18 = .ok (.iadd, 1) := by decide +kernel
theorem dX1_linked_19 : decode cX1_linked 19 = .ok (.istore_n 2, 1) := by decide +kernel
theorem dX1_linked_20 : decode cX1_linked 20 = .ok (.iconst 0, 1) := by decide +kernel
theorem dX1_linked_21 : decode cX1_linked 21 = .ok (.aload_n 0, 1) := by decide +kernel
theorem dX1_linked_22 : decode cX1_linked 22 = .ok (.getfield 25, 3) := by decide +kernel
theorem dX1_linked_25 : decode cX1_linked 25 = .ok (.iload_n 2, 1) := by decide +kernel
theorem dX1_linked_26 : decode cX1_linked 26 = .ok (.invokestatic 72, 3) := by decide +kernel
theorem dX1_linked_29 : decode cX1_linked 29 = .ok (.invokestatic 48, 3) := by decide +kernel
theorem dX1_linked_32 : decode cX1_linked 32 = .ok (.ireturn, 1) := by decide +kernel
theorem dX1_leavingOut_0 : decode cX1_leavingOut 0 = .ok (.aload_n 0, 1) := by decide +kernel
theorem dX1_leavingOut_1 : decode cX1_leavingOut 1 = .ok (.getfield 25, 3) := by decide +kernel
theorem dX1_leavingOut_4 : decode cX1_leavingOut 4 = .ok (.aload_n 0, 1) := by decide +kernel
theorem dX1_leavingOut_5 : decode cX1_leavingOut 5 = .ok (.getfield 9, 3) := by decide +kernel
theorem dX1_leavingOut_8 : decode cX1_leavingOut 8 = .ok (.iload_n 1, 1) := by decide +kernel
theorem dX1_leavingOut_9 : decode cX1_leavingOut 9 = .ok (.iaload, 1) := by decide +kernel
theorem dX1_leavingOut_10 : decode cX1_leavingOut 10 = .ok (.isub, 1) := by decide +kernel
theorem dX1_leavingOut_11 : decode cX1_leavingOut 11 = .ok (.istore_n 3, 1) := by decide +kernel
theorem dX1_leavingOut_12 : decode cX1_leavingOut 12 = .ok (.aload_n 0, 1) := by decide +kernel
theorem dX1_leavingOut_13 : decode cX1_leavingOut 13 = .ok (.getfield 18, 3) := by decide +kernel
theorem dX1_leavingOut_16 : decode cX1_leavingOut 16 = .ok (.iload_n 2, 1) := by decide +kernel
theorem dX1_leavingOut_17 : decode cX1_leavingOut 17 = .ok (.iaload, 1) := by decide +kernel
theorem dX1_leavingOut_18 : decode cX1_leavingOut 18 = .ok (.aload_n 0, 1) := by decide +kernel
theorem dX1_leavingOut_19 : decode cX1_leavingOut 19 = .ok (.iload_n 2, 1) := by decide +kernel
theorem dX1_leavingOut_20 : decode cX1_leavingOut 20 = .ok (.iload_n 1, 1) := by decide +kernel
theorem dX1_leavingOut_21 : decode cX1_leavingOut 21 = .ok (.invokevirtual 67, 3) := by decide +kernel
theorem dX1_leavingOut_24 : decode cX1_leavingOut 24 = .ok (.isub, 1) := by decide +kernel
theorem dX1_leavingOut_25 : decode cX1_leavingOut 25 = .ok (.istore 4, 2) := by decide +kernel
theorem dX1_leavingOut_27 : decode cX1_leavingOut 27 = .ok (.iload_n 3, 1) := by decide +kernel
theorem dX1_leavingOut_28 : decode cX1_leavingOut 28 = .ok (.ifCond .le 15, 3) := by decide +kernel
theorem dX1_leavingOut_31 : decode cX1_leavingOut 31 = .ok (.aload_n 0, 1) := by decide +kernel
theorem dX1_leavingOut_32 : decode cX1_leavingOut 32 = .ok (.getfield 25, 3) := by decide +kernel
theorem dX1_leavingOut_35 : decode cX1_leavingOut 35 = .ok (.iload 4, 2) := by decide +kernel
theorem dX1_leavingOut_37 : decode cX1_leavingOut 37 = .ok (.imul, 1) := by decide +kernel
theorem dX1_leavingOut_38 : decode cX1_leavingOut 38 = .ok (.iload_n 3, 1) := by decide +kernel
theorem dX1_leavingOut_39 : decode cX1_leavingOut 39 = .ok (.idiv, 1) := by decide +kernel
theorem dX1_leavingOut_40 : decode cX1_leavingOut 40 = .ok (.goto 4, 3) := by decide +kernel
theorem dX1_leavingOut_43 : decode cX1_leavingOut 43 = .ok (.iconst 0, 1) := by decide +kernel
theorem dX1_leavingOut_44 : decode cX1_leavingOut 44 = .ok (.ireturn, 1) := by decide +kernel
theorem dX2_init_0 : decode cX2_init 0 = .ok (.aload_n 0, 1) := by decide +kernel
theorem dX2_init_1 : decode cX2_init 1 = .ok (.invokespecial 1, 3) := by decide +kernel
theorem dX2_init_4 : decode cX2_init 4 = .ok (.aload_n 0, 1) := by decide +kernel
theorem dX2_init_5 : decode cX2_init 5 = .ok (.bipush 40, 2) := by decide +kernel
theorem dX2_init_7 : decode cX2_init 7 = .ok (.newarray .int, 2) := by decide +kernel
theorem dX2_init_9 : decode cX2_init 9 = .ok (.putfield 9, 3) := by decide +kernel
theorem dX2_init_12 : decode cX2_init 12 = .ok (.aload_n 0, 1) := by decide +kernel
theorem dX2_init_13 : decode cX2_init 13 = .ok (.iconst 0, 1) := by decide +kernel
theorem dX2_init_14 : decode cX2_init 14 = .ok (.putfield 13, 3) := by decide +kernel
theorem dX2_init_17 : decode cX2_init 17 = .ok (.aload_n 0, 1) := by decide +kernel
theorem dX2_init_18 : decode cX2_init 18 = .ok (.iconst 0, 1) := by decide +kernel
theorem dX2_init_19 : decode cX2_init 19 = .ok (.putfield 17, 3) := by decide +kernel
theorem dX2_init_22 : decode cX2_init 22 = .ok (.return_, 1) := by decide +kernel
theorem dX2_isMissing_0 : decode cX2_isMissing 0 = .ok (.aload_n 0, 1) := by decide +kernel
theorem dX2_isMissing_1 : decode cX2_isMissing 1 = .ok (.getfield 13, 3) := by decide +kernel
theorem dX2_isMissing_4 : decode cX2_isMissing 4 = .ok (.ifCond .ne 7, 3) := by decide +kernel
theorem dX2_isMissing_7 : decode cX2_isMissing 7 = .ok (.iconst 1, 1) := by decide +kernel
theorem dX2_isMissing_8 : decode cX2_isMissing 8 = .ok (.goto 4, 3) := by decide +kernel
theorem dX2_isMissing_11 : decode cX2_isMissing 11 = .ok (.iconst 0, 1) := by decide +kernel
theorem dX2_isMissing_12 : decode cX2_isMissing 12 = .ok (.ireturn, 1) := by decide +kernel
theorem dX2_renew_0 : decode cX2_renew 0 = .ok (.aload_n 0, 1) := by decide +kernel
theorem dX2_renew_1 : decode cX2_renew 1 = .ok (.iload_n 1, 1) := by decide +kernel
theorem dX2_renew_2 : decode cX2_renew 2 = .ok (.putfield 13, 3) := by decide +kernel
theorem dX2_renew_5 : decode cX2_renew 5 = .ok (.aload_n 0, 1) := by decide +kernel
theorem dX2_renew_6 : decode cX2_renew 6 = .ok (.iload_n 1, 1) := by decide +kernel
theorem dX2_renew_7 : decode cX2_renew 7 = .ok (.ifCond .ne 7, 3) := by decide +kernel
theorem dX2_renew_10 : decode cX2_renew 10 = .ok (.iconst 0, 1) := by decide +kernel
theorem dX2_renew_11 : decode cX2_renew 11 = .ok (.goto 4, 3) := by decide +kernel
theorem dX2_renew_14 : decode cX2_renew 14 = .ok (.iload_n 2, 1) := by decide +kernel
theorem dX2_renew_15 : decode cX2_renew 15 = .ok (.putfield 17, 3) := by decide +kernel
theorem dX2_renew_18 : decode cX2_renew 18 = .ok (.aload_n 0, 1) := by decide +kernel
theorem dX2_renew_19 : decode cX2_renew 19 = .ok (.getfield 9, 3) := by decide +kernel
theorem dX2_renew_22 : decode cX2_renew 22 = .ok (.iconst 0, 1) := by decide +kernel
theorem dX2_renew_23 : decode cX2_renew 23 = .ok (.invokestatic 20, 3) := by decide +kernel
theorem dX2_renew_26 : decode cX2_renew 26 = .ok (.return_, 1) := by decide +kernel
theorem dX2_put_0 : decode cX2_put 0 = .ok (.bipush 32, 2) := by decide +kernel
theorem dX2_put_2 : decode cX2_put 2 = .ok (.aload_n 0, 1) := by decide +kernel
theorem dX2_put_3 : decode cX2_put 3 = .ok (.getfield 13, 3) := by decide +kernel
theorem dX2_put_6 : decode cX2_put 6 = .ok (.isub, 1) := by decide +kernel
theorem dX2_put_7 : decode cX2_put 7 = .ok (.istore_n 3, 1) := by decide +kernel
theorem dX2_put_8 : decode cX2_put 8 = .ok (.aload_n 0, 1) := by decide +kernel
theorem dX2_put_9 : decode cX2_put 9 = .ok (.getfield 9, 3) := by decide +kernel
theorem dX2_put_12 : decode cX2_put 12 = .ok (.iload_n 1, 1) := by decide +kernel
theorem dX2_put_13 : decode cX2_put 13 = .ok (.iload_n 2, 1) := by decide +kernel
theorem dX2_put_14 : decode cX2_put 14 = .ok (.iload_n 3, 1) := by decide +kernel
theorem dX2_put_15 : decode cX2_put 15 = .ok (.ishl, 1) := by decide +kernel
theorem dX2_put_16 : decode cX2_put 16 = .ok (.iload_n 3, 1) := by decide +kernel
theorem dX2_put_17 : decode cX2_put 17 = .ok (.ishr, 1) := by decide +kernel
theorem dX2_put_18 : decode cX2_put 18 = .ok (.iastore, 1) := by decide +kernel
theorem dX2_put_19 : decode cX2_put 19 = .ok (.return_, 1) := by decide +kernel
theorem dX2_hasRun_0 : decode cX2_hasRun 0 = .ok (.iload_n 1, 1) := by decide +kernel
theorem dX2_hasRun_1 : decode cX2_hasRun 1 = .ok (.ifCond .lt 29, 3) := by decide +kernel
theorem dX2_hasRun_4 : decode cX2_hasRun 4 = .ok (.iload_n 2, 1) := by decide +kernel
theorem dX2_hasRun_5 : decode cX2_hasRun 5 = .ok (.ifCond .lt 25, 3) := by decide +kernel
theorem dX2_hasRun_8 : decode cX2_hasRun 8 = .ok (.iload_n 2, 1) := by decide +kernel
theorem dX2_hasRun_9 : decode cX2_hasRun 9 = .ok (.aload_n 0, 1) := by decide +kernel
theorem dX2_hasRun_10 : decode cX2_hasRun 10 = .ok (.getfield 17, 3) := by decide +kernel
theorem dX2_hasRun_13 : decode cX2_hasRun 13 = .ok (.if_icmp .gt 17, 3) := by decide +kernel
theorem dX2_hasRun_16 : decode cX2_hasRun 16 = .ok (.iload_n 1, 1) := by decide +kernel
theorem dX2_hasRun_17 : decode cX2_hasRun 17 = .ok (.aload_n 0, 1) := by decide +kernel
theorem dX2_hasRun_18 : decode cX2_hasRun 18 = .ok (.getfield 17, 3) := by decide +kernel
theorem dX2_hasRun_21 : decode cX2_hasRun 21 = .ok (.iload_n 2, 1) := by decide +kernel
theorem dX2_hasRun_22 : decode cX2_hasRun 22 = .ok (.isub, 1) := by decide +kernel
theorem dX2_hasRun_23 : decode cX2_hasRun 23 = .ok (.if_icmp .gt 7, 3) := by decide +kernel
theorem dX2_hasRun_26 : decode cX2_hasRun 26 = .ok (.iconst 1, 1) := by decide +kernel
theorem dX2_hasRun_27 : decode cX2_hasRun 27 = .ok (.goto 4, 3) := by decide +kernel
theorem dX2_hasRun_30 : decode cX2_hasRun 30 = .ok (.iconst 0, 1) := by decide +kernel
theorem dX2_hasRun_31 : decode cX2_hasRun 31 = .ok (.ireturn, 1) := by decide +kernel
theorem dX3_init_0 : decode cX3_init 0 = .ok (.aload_n 0, 1) := by decide +kernel
theorem dX3_init_1 : decode cX3_init 1 = .ok (.invokespecial 3, 3) := by decide +kernel
theorem dX3_init_4 : decode cX3_init 4 = .ok (.aload_n 0, 1) := by decide +kernel
theorem dX3_init_5 : decode cX3_init 5 = .ok (.bipush 120, 2) := by decide +kernel
theorem dX3_init_7 : decode cX3_init 7 = .ok (.newarray .int, 2) := by decide +kernel
theorem dX3_init_9 : decode cX3_init 9 = .ok (.putfield 11, 3) := by decide +kernel
theorem dX3_init_12 : decode cX3_init 12 = .ok (.aload_n 0, 1) := by decide +kernel
theorem dX3_init_13 : decode cX3_init 13 = .ok (.iconst 0, 1) := by decide +kernel
theorem dX3_init_14 : decode cX3_init 14 = .ok (.putfield 15, 3) := by decide +kernel
theorem dX3_init_17 : decode cX3_init 17 = .ok (.aload_n 0, 1) := by decide +kernel
theorem dX3_init_18 : decode cX3_init 18 = .ok (.iconst 0, 1) := by decide +kernel
theorem dX3_init_19 : decode cX3_init 19 = .ok (.putfield 19, 3) := by decide +kernel
theorem dX3_init_22 : decode cX3_init 22 = .ok (.aload_n 0, 1) := by decide +kernel
theorem dX3_init_23 : decode cX3_init 23 = .ok (.iconst 0, 1) := by decide +kernel
theorem dX3_init_24 : decode cX3_init 24 = .ok (.putfield 22, 3) := by decide +kernel
theorem dX3_init_27 : decode cX3_init 27 = .ok (.aload_n 0, 1) := by decide +kernel
theorem dX3_init_28 : decode cX3_init 28 = .ok (.iconst 0, 1) := by decide +kernel
theorem dX3_init_29 : decode cX3_init 29 = .ok (.putfield 25, 3) := by decide +kernel
theorem dX3_init_32 : decode cX3_init 32 = .ok (.aload_n 0, 1) := by decide +kernel
theorem dX3_init_33 : decode cX3_init 33 = .ok (.iconst 0, 1) := by decide +kernel
theorem dX3_init_34 : decode cX3_init 34 = .ok (.putfield 28, 3) := by decide +kernel
theorem dX3_init_37 : decode cX3_init 37 = .ok (.return_, 1) := by decide +kernel
theorem dX3_add_0 : decode cX3_add 0 = .ok (.aload_n 0, 1) := by decide +kernel
theorem dX3_add_1 : decode cX3_add 1 = .ok (.getfield 15, 3) := by decide +kernel
theorem dX3_add_4 : decode cX3_add 4 = .ok (.bipush 120, 2) := by decide +kernel
theorem dX3_add_6 : decode cX3_add 6 = .ok (.if_icmp .ge 27, 3) := by decide +kernel
theorem dX3_add_9 : decode cX3_add 9 = .ok (.aload_n 0, 1) := by decide +kernel
theorem dX3_add_10 : decode cX3_add 10 = .ok (.getfield 11, 3) := by decide +kernel
theorem dX3_add_13 : decode cX3_add 13 = .ok (.aload_n 0, 1) := by decide +kernel
theorem dX3_add_14 : decode cX3_add 14 = .ok (.getfield 15, 3) := by decide +kernel
theorem dX3_add_17 : decode cX3_add 17 = .ok (.iload_n 1, 1) := by decide +kernel
theorem dX3_add_18 : decode cX3_add 18 = .ok (.sipush 255, 3) := by decide +kernel
theorem dX3_add_21 : decode cX3_add 21 = .ok (.iand, 1) := by decide +kernel
theorem dX3_add_22 : decode cX3_add 22 = .ok (.iastore, 1) := by decide +kernel
theorem dX3_add_23 : decode cX3_add 23 = .ok (.aload_n 0, 1) := by decide +kernel
theorem dX3_add_24 : decode cX3_add 24 = .ok (.dup, 1) := by decide +kernel
theorem dX3_add_25 : decode cX3_add 25 = .ok (.getfield 15, 3) := by decide +kernel
theorem dX3_add_28 : decode cX3_add 28 = .ok (.iconst 1, 1) := by decide +kernel
theorem dX3_add_29 : decode cX3_add 29 = .ok (.iadd, 1) := by decide +kernel
theorem dX3_add_30 : decode cX3_add 30 = .ok (.putfield 15, 3) := by decide +kernel
theorem dX3_add_33 : decode cX3_add 33 = .ok (.return_, 1) := by decide +kernel
theorem dX3_readInto_0 : decode cX3_readInto 0 = .ok (.aload_n 0, 1) := by decide +kernel
theorem dX3_readInto_1 : decode cX3_readInto 1 = .ok (.iconst 0, 1) := by decide +kernel
theorem dX3_readInto_2 : decode cX3_readInto 2 = .ok (.putfield 25, 3) := by decide +kernel
theorem dX3_readInto_5 : decode cX3_readInto 5 = .ok (.aload_n 0, 1) := by decide +kernel
theorem dX3_readInto_6 : decode cX3_readInto 6 = .ok (.invokevirtual 31, 3) := by decide +kernel
theorem dX3_readInto_9 : decode cX3_readInto 9 = .ok (.iconst 1, 1) := by decide +kernel
theorem dX3_readInto_10 : decode cX3_readInto 10 = .ok (.istore_n 2, 1) := by decide +kernel
theorem dX3_readInto_11 : decode cX3_readInto 11 = .ok (.iload_n 2, 1) := by decide +kernel
theorem dX3_readInto_12 : decode cX3_readInto 12 = .ok (.bipush 120, 2) := by decide +kernel
theorem dX3_readInto_14 : decode cX3_readInto 14 = .ok (.if_icmp .gt 52, 3) := by decide +kernel
theorem dX3_readInto_17 : decode cX3_readInto 17 = .ok (.aload_n 0, 1) := by decide +kernel
theorem dX3_readInto_18 : decode cX3_readInto 18 = .ok (.aload_n 1, 1) := by decide +kernel
theorem dX3_readInto_19 : decode cX3_readInto 19 = .ok (.invokevirtual 34, 3) := by decide +kernel
theorem dX3_readInto_22 : decode cX3_readInto 22 = .ok (.ifCond .ne 10, 3) := by decide +kernel
theorem dX3_readInto_25 : decode cX3_readInto 25 = .ok (.iconst (-1), 1) := by decide +kernel
theorem dX3_readInto_26 : decode cX3_readInto 26 = .ok (.aload_n 0, 1) := by decide +kernel
theorem dX3_readInto_27 : decode cX3_readInto 27 = .ok (.getfield 22, 3) := by decide +kernel
theorem dX3_readInto_30 : decode cX3_readInto 30 = .ok (.isub, 1) := by decide +kernel
theorem dX3_readInto_31 : decode cX3_readInto 31 = .ok (.ireturn, 1) := by decide +kernel
theorem dX3_readInto_32 : decode cX3_readInto 32 = .ok (.aload_n 0, 1) := by decide +kernel
theorem dX3_readInto_33 : decode cX3_readInto 33 = .ok (.getfield 19, 3) := by decide +kernel
theorem dX3_readInto_36 : decode cX3_readInto 36 = .ok (.ifCond .ne 5, 3) := by decide +kernel
theorem dX3_readInto_39 : decode cX3_readInto 39 = .ok (.iload_n 2, 1) := by decide +kernel
theorem dX3_readInto_40 : decode cX3_readInto 40 = .ok (.ireturn, 1) := by decide +kernel
theorem dX3_readInto_41 : decode cX3_readInto 41 = .ok (.aload_n 0, 1) := by decide +kernel
theorem dX3_readInto_42 : decode cX3_readInto 42 = .ok (.getfield 19, 3) := by decide +kernel
theorem dX3_readInto_45 : decode cX3_readInto 45 = .ok (.iconst 3, 1) := by decide +kernel
theorem dX3_readInto_46 : decode cX3_readInto 46 = .ok (.if_icmp .eq 10, 3) := by decide +kernel
theorem dX3_readInto_49 : decode cX3_readInto 49 = .ok (.iconst (-1), 1) := by decide +kernel
theorem dX3_readInto_50 : decode cX3_readInto 50 = .ok (.aload_n 0, 1) := by decide +kernel
theorem dX3_readInto_51 : decode cX3_readInto 51 = .ok (.getfield 22, 3) := by decide +kernel
theorem dX3_readInto_54 : decode cX3_readInto 54 = .ok (.isub, 1) := by decide +kernel
theorem dX3_readInto_55 : decode cX3_readInto 55 = .ok (.ireturn, 1) := by decide +kernel
theorem dX3_readInto_56 : decode cX3_readInto 56 = .ok (.aload_n 0, 1) := by decide +kernel
theorem dX3_readInto_57 : decode cX3_readInto 57 = .ok (.invokevirtual 31, 3) := by decide +kernel
theorem dX3_readInto_60 : decode cX3_readInto 60 = .ok (.iinc 2 1, 3) := by decide +kernel
theorem dX3_readInto_63 : decode cX3_readInto 63 = .ok (.goto (-52), 3) := by decide +kernel
theorem dX3_readInto_66 : decode cX3_readInto 66 = .ok (.iconst (-1), 1) := by decide +kernel
theorem dX3_readInto_67 : decode cX3_readInto 67 = .ok (.aload_n 0, 1) := by decide +kernel
theorem dX3_readInto_68 : decode cX3_readInto 68 = .ok (.getfield 22, 3) := by decide +kernel
theorem dX3_readInto_71 : decode cX3_readInto 71 = .ok (.isub, 1) := by decide +kernel
theorem dX3_readInto_72 : decode cX3_readInto 72 = .ok (.ireturn, 1) := by decide +kernel
theorem dX3_readItem_0 : decode cX3_readItem 0 = .ok (.aload_n 0, 1) := by decide +kernel
theorem dX3_readItem_1 : decode cX3_readItem 1 = .ok (.ldc 38, 2) := by decide +kernel
theorem dX3_readItem_3 : decode cX3_readItem 3 = .ok (.invokevirtual 40, 3) := by decide +kernel
theorem dX3_readItem_6 : decode cX3_readItem 6 = .ok (.ifCond .eq 9, 3) := by decide +kernel
theorem dX3_readItem_9 : decode cX3_readItem 9 = .ok (.aload_n 0, 1) := by decide +kernel
theorem dX3_readItem_10 : decode cX3_readItem 10 = .ok (.aload_n 1, 1) := by decide +kernel
theorem dX3_readItem_11 : decode cX3_readItem 11 = .ok (.invokevirtual 44, 3) := by decide +kernel
theorem dX3_readItem_14 : decode cX3_readItem 14 = .ok (.ireturn, 1) := by decide +kernel
theorem dX3_readItem_15 : decode cX3_readItem 15 = .ok (.aload_n 0, 1) := by decide +kernel
theorem dX3_readItem_16 : decode cX3_readItem 16 = .ok (.ldc 47, 2) := by decide +kernel
theorem dX3_readItem_18 : decode cX3_readItem 18 = .ok (.invokevirtual 40, 3) := by decide +kernel
theorem dX3_readItem_21 : decode cX3_readItem 21 = .ok (.ifCond .eq 9, 3) := by decide +kernel
theorem dX3_readItem_24 : decode cX3_readItem 24 = .ok (.aload_n 0, 1) := by decide +kernel
theorem dX3_readItem_25 : decode cX3_readItem 25 = .ok (.aload_n 1, 1) := by decide +kernel
theorem dX3_readItem_26 : decode cX3_readItem 26 = .ok (.invokevirtual 49, 3) := by decide +kernel
theorem dX3_readItem_29 : decode cX3_readItem 29 = .ok (.ireturn, 1) := by decide +kernel
theorem dX3_readItem_30 : decode cX3_readItem 30 = .ok (.aload_n 0, 1) := by decide +kernel
theorem dX3_readItem_31 : decode cX3_readItem 31 = .ok (.ldc 52, 2) := by decide +kernel
theorem dX3_readItem_33 : decode cX3_readItem 33 = .ok (.invokevirtual 40, 3) := by decide +kernel
theorem dX3_readItem_36 : decode cX3_readItem 36 = .ok (.ifCond .eq 9, 3) := by decide +kernel
theorem dX3_readItem_39 : decode cX3_readItem 39 = .ok (.aload_n 0, 1) := by decide +kernel
theorem dX3_readItem_40 : decode cX3_readItem 40 = .ok (.aload_n 1, 1) := by decide +kernel
theorem dX3_readItem_41 : decode cX3_readItem 41 = .ok (.invokevirtual 54, 3) := by decide +kernel
theorem dX3_readItem_44 : decode cX3_readItem 44 = .ok (.ireturn, 1) := by decide +kernel
theorem dX3_readItem_45 : decode cX3_readItem 45 = .ok (.aload_n 0, 1) := by decide +kernel
theorem dX3_readItem_46 : decode cX3_readItem 46 = .ok (.invokevirtual 57, 3) := by decide +kernel
theorem dX3_readItem_49 : decode cX3_readItem 49 = .ok (.istore_n 2, 1) := by decide +kernel
theorem dX3_readItem_50 : decode cX3_readItem 50 = .ok (.iload_n 2, 1) := by decide +kernel
theorem dX3_readItem_51 : decode cX3_readItem 51 = .ok (.ifCond .lt 16, 3) := by decide +kernel
theorem dX3_readItem_54 : decode cX3_readItem 54 = .ok (.aload_n 0, 1) := by decide +kernel
theorem dX3_readItem_55 : decode cX3_readItem 55 = .ok (.aload_n 1, 1) := by decide +kernel
theorem dX3_readItem_56 : decode cX3_readItem 56 = .ok (.iload_n 2, 1) := by decide +kernel
theorem dX3_readItem_57 : decode cX3_readItem 57 = .ok (.invokevirtual 61, 3) := by decide +kernel
theorem dX3_readItem_60 : decode cX3_readItem 60 = .ok (.ifCond .eq 7, 3) := by decide +kernel
theorem dX3_readItem_63 : decode cX3_readItem 63 = .ok (.iconst 1, 1) := by decide +kernel
theorem dX3_readItem_64 : decode cX3_readItem 64 = .ok (.goto 4, 3) := by decide +kernel
theorem dX3_readItem_67 : decode cX3_readItem 67 = .ok (.iconst 0, 1) := by decide +kernel
theorem dX3_readItem_68 : decode cX3_readItem 68 = .ok (.ireturn, 1) := by decide +kernel
theorem dX3_readQuestion_0 : decode cX3_readQuestion 0 = .ok (.aload_n 0, 1) := by decide +kernel
theorem dX3_readQuestion_1 : decode cX3_readQuestion 1 = .ok (.invokevirtual 31, 3) := by decide +kernel
theorem dX3_readQuestion_4 : decode cX3_readQuestion 4 = .ok (.aload_n 0, 1) := by decide +kernel
theorem dX3_readQuestion_5 : decode cX3_readQuestion 5 = .ok (.bipush 7, 2) := by decide +kernel
theorem dX3_readQuestion_7 : decode cX3_readQuestion 7 = .ok (.invokevirtual 65, 3) := by decide +kernel
theorem dX3_readQuestion_10 : decode cX3_readQuestion 10 = .ok (.ifCond .ne 5, 3) := by decide +kernel
theorem dX3_readQuestion_13 : decode cX3_readQuestion 13 = .ok (.iconst 0, 1) := by decide +kernel
theorem dX3_readQuestion_14 : decode cX3_readQuestion 14 = .ok (.ireturn, 1) := by decide +kernel
theorem dX3_readQuestion_15 : decode cX3_readQuestion 15 = .ok (.aload_n 0, 1) := by decide +kernel
theorem dX3_readQuestion_16 : decode cX3_readQuestion 16 = .ok (.getfield 28, 3) := by decide +kernel
theorem dX3_readQuestion_19 : decode cX3_readQuestion 19 = .ok (.istore_n 2, 1) := by decide +kernel
theorem dX3_readQuestion_20 : decode cX3_readQuestion 20 = .ok (.aload_n 0, 1) := by decide +kernel
theorem dX3_readQuestion_21 : decode cX3_readQuestion 21 = .ok (.invokevirtual 31, 3) := by decide +kernel
theorem dX3_readQuestion_24 : decode cX3_readQuestion 24 = .ok (.aload_n 0, 1) := by decide +kernel
theorem dX3_readQuestion_25 : decode cX3_readQuestion 25 = .ok (.ldc 69, 2) := by decide +kernel
theorem dX3_readQuestion_27 : decode cX3_readQuestion 27 = .ok (.invokevirtual 40, 3) := by decide +kernel
theorem dX3_readQuestion_30 : decode cX3_readQuestion 30 = .ok (.ifCond .ne 5, 3) := by decide +kernel
theorem dX3_readQuestion_33 : decode cX3_readQuestion 33 = .ok (.iconst 0, 1) := by decide +kernel
theorem dX3_readQuestion_34 : decode cX3_readQuestion 34 = .ok (.ireturn, 1) := by decide +kernel
theorem dX3_readQuestion_35 : decode cX3_readQuestion 35 = .ok (.aload_n 0, 1) := by decide +kernel
theorem dX3_readQuestion_36 : decode cX3_readQuestion 36 = .ok (.invokevirtual 31, 3) := by decide +kernel
theorem dX3_readQuestion_39 : decode cX3_readQuestion 39 = .ok (.aload_n 0, 1) := by decide +kernel
theorem dX3_readQuestion_40 : decode cX3_readQuestion 40 = .ok (.bipush 40, 2) := by decide +kernel
theorem dX3_readQuestion_42 : decode cX3_readQuestion 42 = .ok (.invokevirtual 65, 3) := by decide +kernel
theorem dX3_readQuestion_45 : decode cX3_readQuestion 45 = .ok (.ifCond .ne 5, 3) := by decide +kernel
theorem dX3_readQuestion_48 : decode cX3_readQuestion 48 = .ok (.iconst 0, 1) := by decide +kernel
theorem dX3_readQuestion_49 : decode cX3_readQuestion 49 = .ok (.ireturn, 1) := by decide +kernel
theorem dX3_readQuestion_50 : decode cX3_readQuestion 50 = .ok (.aload_n 1, 1) := by decide +kernel
theorem dX3_readQuestion_51 : decode cX3_readQuestion 51 = .ok (.iload_n 2, 1) := by decide +kernel
theorem dX3_readQuestion_52 : decode cX3_readQuestion 52 = .ok (.aload_n 0, 1) := by decide +kernel
theorem dX3_readQuestion_53 : decode cX3_readQuestion 53 = .ok (.getfield 28, 3) := by decide +kernel
theorem dX3_readQuestion_56 : decode cX3_readQuestion 56 = .ok (.invokevirtual 71, 3) := by decide +kernel
theorem dX3_readQuestion_59 : decode cX3_readQuestion 59 = .ok (.aload_n 0, 1) := by decide +kernel
theorem dX3_readQuestion_60 : decode cX3_readQuestion 60 = .ok (.invokevirtual 31, 3) := by decide +kernel
theorem dX3_readQuestion_63 : decode cX3_readQuestion 63 = .ok (.iconst 1, 1) := by decide +kernel
theorem dX3_readQuestion_64 : decode cX3_readQuestion 64 = .ok (.ireturn, 1) := by decide +kernel
theorem dX3_readCommon_0 : decode cX3_readCommon 0 = .ok (.aload_n 0, 1) := by decide +kernel
theorem dX3_readCommon_1 : decode cX3_readCommon 1 = .ok (.invokevirtual 31, 3) := by decide +kernel
theorem dX3_readCommon_4 : decode cX3_readCommon 4 = .ok (.aload_n 0, 1) := by decide +kernel
theorem dX3_readCommon_5 : decode cX3_readCommon 5 = .ok (.bipush 7, 2) := by decide +kernel
theorem dX3_readCommon_7 : decode cX3_readCommon 7 = .ok (.invokevirtual 65, 3) := by decide +kernel
theorem dX3_readCommon_10 : decode cX3_readCommon 10 = .ok (.ifCond .ne 5, 3) := by decide +kernel
theorem dX3_readCommon_13 : decode cX3_readCommon 13 = .ok (.iconst 0, 1) := by decide +kernel
theorem dX3_readCommon_14 : decode cX3_readCommon 14 = .ok (.ireturn, 1) := by decide +kernel
theorem dX3_readCommon_15 : decode cX3_readCommon 15 = .ok (.aload_n 0, 1) := by decide +kernel
theorem dX3_readCommon_16 : decode cX3_readCommon 16 = .ok (.getfield 28, 3) := by decide +kernel
theorem dX3_readCommon_19 : decode cX3_readCommon 19 = .ok (.istore_n 2, 1) := by decide +kernel
theorem dX3_readCommon_20 : decode cX3_readCommon 20 = .ok (.aload_n 0, 1) := by decide +kernel
theorem dX3_readCommon_21 : decode cX3_readCommon 21 = .ok (.invokevirtual 31, 3) := by decide +kernel
theorem dX3_readCommon_24 : decode cX3_readCommon 24 = .ok (.aload_n 0, 1) := by decide +kernel
theorem dX3_readCommon_25 : decode cX3_readCommon 25 = .ok (.sipush 400, 3) := by decide +kernel
theorem dX3_readCommon_28 : decode cX3_readCommon 28 = .ok (.invokevirtual 65, 3) := by decide +kernel
theorem dX3_readCommon_31 : decode cX3_readCommon 31 = .ok (.ifCond .ne 5, 3) := by decide +kernel
theorem dX3_readCommon_34 : decode cX3_readCommon 34 = .ok (.iconst 0, 1) := by decide +kernel
theorem dX3_readCommon_35 : decode cX3_readCommon 35 = .ok (.ireturn, 1) := by decide +kernel
theorem dX3_readCommon_36 : decode cX3_readCommon 36 = .ok (.aload_n 1, 1) := by decide +kernel
theorem dX3_readCommon_37 : decode cX3_readCommon 37 = .ok (.getfield 77, 3) := by decide +kernel
theorem dX3_readCommon_40 : decode cX3_readCommon 40 = .ok (.iload_n 2, 1) := by decide +kernel
theorem dX3_readCommon_41 : decode cX3_readCommon 41 = .ok (.aload_n 0, 1) := by decide +kernel
theorem dX3_readCommon_42 : decode cX3_readCommon 42 = .ok (.getfield 28, 3) := by decide +kernel
theorem dX3_readCommon_45 : decode cX3_readCommon 45 = .ok (.iastore, 1) := by decide +kernel
theorem dX3_readCommon_46 : decode cX3_readCommon 46 = .ok (.aload_n 0, 1) := by decide +kernel
theorem dX3_readCommon_47 : decode cX3_readCommon 47 = .ok (.invokevirtual 31, 3) := by decide +kernel
theorem dX3_readCommon_50 : decode cX3_readCommon 50 = .ok (.iconst 1, 1) := by decide +kernel
theorem dX3_readCommon_51 : decode cX3_readCommon 51 = .ok (.ireturn, 1) := by decide +kernel
theorem dX3_readPupil_0 : decode cX3_readPupil 0 = .ok (.aload_n 1, 1) := by decide +kernel
theorem dX3_readPupil_1 : decode cX3_readPupil 1 = .ok (.getfield 80, 3) := by decide +kernel
theorem dX3_readPupil_4 : decode cX3_readPupil 4 = .ok (.bipush 12, 2) := by decide +kernel
theorem dX3_readPupil_6 : decode cX3_readPupil 6 = .ok (.if_icmp .lt 5, 3) := by decide +kernel
theorem dX3_readPupil_9 : decode cX3_readPupil 9 = .ok (.iconst 0, 1) := by decide +kernel
theorem dX3_readPupil_10 : decode cX3_readPupil 10 = .ok (.ireturn, 1) := by decide +kernel
theorem dX3_readPupil_11 : decode cX3_readPupil 11 = .ok (.aload_n 0, 1) := by decide +kernel
theorem dX3_readPupil_12 : decode cX3_readPupil 12 = .ok (.invokevirtual 31, 3) := by decide +kernel
theorem dX3_readPupil_15 : decode cX3_readPupil 15 = .ok (.aload_n 0, 1) := by decide +kernel
theorem dX3_readPupil_16 : decode cX3_readPupil 16 = .ok (.iconst 3, 1) := by decide +kernel
theorem dX3_readPupil_17 : decode cX3_readPupil 17 = .ok (.invokevirtual 65, 3) := by decide +kernel
theorem dX3_readPupil_20 : decode cX3_readPupil 20 = .ok (.ifCond .ne 5, 3) := by decide +kernel
theorem dX3_readPupil_23 : decode cX3_readPupil 23 = .ok (.iconst 0, 1) := by decide +kernel
theorem dX3_readPupil_24 : decode cX3_readPupil 24 = .ok (.ireturn, 1) := by decide +kernel
theorem dX3_readPupil_25 : decode cX3_readPupil 25 = .ok (.aload_n 1, 1) := by decide +kernel
theorem dX3_readPupil_26 : decode cX3_readPupil 26 = .ok (.aload_n 0, 1) := by decide +kernel
theorem dX3_readPupil_27 : decode cX3_readPupil 27 = .ok (.getfield 28, 3) := by decide +kernel
theorem dX3_readPupil_30 : decode cX3_readPupil 30 = .ok (.invokevirtual 83, 3) := by decide +kernel
theorem dX3_readPupil_33 : decode cX3_readPupil 33 = .ok (.istore_n 2, 1) := by decide +kernel
theorem dX3_readPupil_34 : decode cX3_readPupil 34 = .ok (.aload_n 0, 1) := by decide +kernel
theorem dX3_readPupil_35 : decode cX3_readPupil 35 = .ok (.invokevirtual 31, 3) := by decide +kernel
theorem dX3_readPupil_38 : decode cX3_readPupil 38 = .ok (.iconst 0, 1) := by decide +kernel
theorem dX3_readPupil_39 : decode cX3_readPupil 39 = .ok (.istore_n 3, 1) := by decide +kernel
theorem dX3_readPupil_40 : decode cX3_readPupil 40 = .ok (.iload_n 3, 1) := by decide +kernel
theorem dX3_readPupil_41 : decode cX3_readPupil 41 = .ok (.bipush 8, 2) := by decide +kernel
theorem dX3_readPupil_43 : decode cX3_readPupil 43 = .ok (.if_icmp .ge 46, 3) := by decide +kernel
theorem dX3_readPupil_46 : decode cX3_readPupil 46 = .ok (.aload_n 0, 1) := by decide +kernel
theorem dX3_readPupil_47 : decode cX3_readPupil 47 = .ok (.getfield 19, 3) := by decide +kernel
theorem dX3_readPupil_50 : decode cX3_readPupil 50 = .ok (.iconst 2, 1) := by decide +kernel
theorem dX3_readPupil_51 : decode cX3_readPupil 51 = .ok (.if_icmp .ne 38, 3) := by decide +kernel
theorem dX3_readPupil_54 : decode cX3_readPupil 54 = .ok (.aload_n 0, 1) := by decide +kernel
theorem dX3_readPupil_55 : decode cX3_readPupil 55 = .ok (.aload_n 1, 1) := by decide +kernel
theorem dX3_readPupil_56 : decode cX3_readPupil 56 = .ok (.getfield 87, 3) := by decide +kernel
theorem dX3_readPupil_59 : decode cX3_readPupil 59 = .ok (.iload_n 3, 1) := by decide +kernel
theorem dX3_readPupil_60 : decode cX3_readPupil 60 = .ok (.iaload, 1) := by decide +kernel
theorem dX3_readPupil_61 : decode cX3_readPupil 61 = .ok (.invokevirtual 65, 3) := by decide +kernel
theorem dX3_readPupil_64 : decode cX3_readPupil 64 = .ok (.ifCond .ne 5, 3) := by decide +kernel
theorem dX3_readPupil_67 : decode cX3_readPupil 67 = .ok (.iconst 0, 1) := by decide +kernel
theorem dX3_readPupil_68 : decode cX3_readPupil 68 = .ok (.ireturn, 1) := by decide +kernel
theorem dX3_readPupil_69 : decode cX3_readPupil 69 = .ok (.aload_n 1, 1) := by decide +kernel
theorem dX3_readPupil_70 : decode cX3_readPupil 70 = .ok (.iload_n 2, 1) := by decide +kernel
theorem dX3_readPupil_71 : decode cX3_readPupil 71 = .ok (.iload_n 3, 1) := by decide +kernel
theorem dX3_readPupil_72 : decode cX3_readPupil 72 = .ok (.aload_n 0, 1) := by decide +kernel
theorem dX3_readPupil_73 : decode cX3_readPupil 73 = .ok (.getfield 28, 3) := by decide +kernel
theorem dX3_readPupil_76 : decode cX3_readPupil 76 = .ok (.invokevirtual 90, 3) := by decide +kernel
theorem dX3_readPupil_79 : decode cX3_readPupil 79 = .ok (.aload_n 0, 1) := by decide +kernel
theorem dX3_readPupil_80 : decode cX3_readPupil 80 = .ok (.invokevirtual 31, 3) := by decide +kernel
theorem dX3_readPupil_83 : decode cX3_readPupil 83 = .ok (.iinc 3 1, 3) := by decide +kernel
theorem dX3_readPupil_86 : decode cX3_readPupil 86 = .ok (.goto (-46), 3) := by decide +kernel
theorem dX3_readPupil_89 : decode cX3_readPupil 89 = .ok (.iconst 1, 1) := by decide +kernel
theorem dX3_readPupil_90 : decode cX3_readPupil 90 = .ok (.ireturn, 1) := by decide +kernel
theorem dX3_readCurve_0 : decode cX3_readCurve 0 = .ok (.aload_n 1, 1) := by decide +kernel
theorem dX3_readCurve_1 : decode cX3_readCurve 1 = .ok (.getfield 94, 3) := by decide +kernel
theorem dX3_readCurve_4 : decode cX3_readCurve 4 = .ok (.bipush 6, 2) := by decide +kernel
theorem dX3_readCurve_6 : decode cX3_readCurve 6 = .ok (.if_icmp .lt 5, 3) := by decide +kernel
theorem dX3_readCurve_9 : decode cX3_readCurve 9 = .ok (.iconst 0, 1) := by decide +kernel
theorem dX3_readCurve_10 : decode cX3_readCurve 10 = .ok (.ireturn, 1) := by decide +kernel
theorem dX3_readCurve_11 : decode cX3_readCurve 11 = .ok (.iconst 0, 1) := by decide +kernel
theorem dX3_readCurve_12 : decode cX3_readCurve 12 = .ok (.istore_n 3, 1) := by decide +kernel
theorem dX3_readCurve_13 : decode cX3_readCurve 13 = .ok (.aload_n 0, 1) := by decide +kernel
theorem dX3_readCurve_14 : decode cX3_readCurve 14 = .ok (.invokevirtual 31, 3) := by decide +kernel
theorem dX3_readCurve_17 : decode cX3_readCurve 17 = .ok (.aload_n 0, 1) := by decide +kernel
theorem dX3_readCurve_18 : decode cX3_readCurve 18 = .ok (.ldc 97, 2) := by decide +kernel
theorem dX3_readCurve_20 : decode cX3_readCurve 20 = .ok (.invokevirtual 40, 3) := by decide +kernel
theorem dX3_readCurve_23 : decode cX3_readCurve 23 = .ok (.ifCond .eq 27, 3) := by decide +kernel
theorem dX3_readCurve_26 : decode cX3_readCurve 26 = .ok (.aload_n 0, 1) := by decide +kernel
theorem dX3_readCurve_27 : decode cX3_readCurve 27 = .ok (.invokevirtual 31, 3) := by decide +kernel
theorem dX3_readCurve_30 : decode cX3_readCurve 30 = .ok (.aload_n 0, 1) := by decide +kernel
theorem dX3_readCurve_31 : decode cX3_readCurve 31 = .ok (.bipush 100, 2) := by decide +kernel
theorem dX3_readCurve_33 : decode cX3_readCurve 33 = .ok (.invokevirtual 65, 3) := by decide +kernel
theorem dX3_readCurve_36 : decode cX3_readCurve 36 = .ok (.ifCond .ne 5, 3) := by decide +kernel
theorem dX3_readCurve_39 : decode cX3_readCurve 39 = .ok (.iconst 0, 1) := by decide +kernel
theorem dX3_readCurve_40 : decode cX3_readCurve 40 = .ok (.ireturn, 1) := by decide +kernel
theorem dX3_readCurve_41 : decode cX3_readCurve 41 = .ok (.aload_n 0, 1) := by decide +kernel
theorem dX3_readCurve_42 : decode cX3_readCurve 42 = .ok (.getfield 28, 3) := by decide +kernel
theorem dX3_readCurve_45 : decode cX3_readCurve 45 = .ok (.istore_n 3, 1) := by decide +kernel
theorem dX3_readCurve_46 : decode cX3_readCurve 46 = .ok (.aload_n 0, 1) := by decide +kernel
theorem dX3_readCurve_47 : decode cX3_readCurve 47 = .ok (.invokevirtual 31, 3) := by decide +kernel
theorem dX3_readCurve_50 : decode cX3_readCurve 50 = .ok (.aload_n 1, 1) := by decide +kernel
theorem dX3_readCurve_51 : decode cX3_readCurve 51 = .ok (.iload_n 2, 1) := by decide +kernel
theorem dX3_readCurve_52 : decode cX3_readCurve 52 = .ok (.iload_n 3, 1) := by decide +kernel
theorem dX3_readCurve_53 : decode cX3_readCurve 53 = .ok (.invokevirtual 99, 3) := by decide +kernel
theorem dX3_readCurve_56 : decode cX3_readCurve 56 = .ok (.pop, 1) := by decide +kernel
theorem dX3_readCurve_57 : decode cX3_readCurve 57 = .ok (.iconst 1, 1) := by decide +kernel
theorem dX3_readCurve_58 : decode cX3_readCurve 58 = .ok (.ireturn, 1) := by decide +kernel
theorem dX3_kindOfWord_0 : decode cX3_kindOfWord 0 = .ok (.aload_n 0, 1) := by decide +kernel
theorem dX3_kindOfWord_1 : decode cX3_kindOfWord 1 = .ok (.ldc 103, 2) := by decide +kernel
theorem dX3_kindOfWord_3 : decode cX3_kindOfWord 3 = .ok (.invokevirtual 40, 3) := by decide +kernel
theorem dX3_kindOfWord_6 : decode cX3_kindOfWord 6 = .ok (.ifCond .eq 5, 3) := by decide +kernel
theorem dX3_kindOfWord_9 : decode cX3_kindOfWord 9 = .ok (.iconst 0, 1) := by decide +kernel
theorem dX3_kindOfWord_10 : decode cX3_kindOfWord 10 = .ok (.ireturn, 1) := by decide +kernel
theorem dX3_kindOfWord_11 : decode cX3_kindOfWord 11 = .ok (.aload_n 0, 1) := by decide +kernel
theorem dX3_kindOfWord_12 : decode cX3_kindOfWord 12 = .ok (.ldc 105, 2) := by decide +kernel
theorem dX3_kindOfWord_14 : decode cX3_kindOfWord 14 = .ok (.invokevirtual 40, 3) := by decide +kernel
theorem dX3_kindOfWord_17 : decode cX3_kindOfWord 17 = .ok (.ifCond .eq 5, 3) := by decide +kernel
theorem dX3_kindOfWord_20 : decode cX3_kindOfWord 20 = .ok (.iconst 1, 1) := by decide +kernel
theorem dX3_kindOfWord_21 : decode cX3_kindOfWord 21 = .ok (.ireturn, 1) := by decide +kernel
theorem dX3_kindOfWord_22 : decode cX3_kindOfWord 22 = .ok (.aload_n 0, 1) := by decide +kernel
theorem dX3_kindOfWord_23 : decode cX3_kindOfWord 23 = .ok (.ldc 107, 2) := by decide +kernel
theorem dX3_kindOfWord_25 : decode cX3_kindOfWord 25 = .ok (.invokevirtual 40, 3) := by decide +kernel
theorem dX3_kindOfWord_28 : decode cX3_kindOfWord 28 = .ok (.ifCond .eq 5, 3) := by decide +kernel
theorem dX3_kindOfWord_31 : decode cX3_kindOfWord 31 = .ok (.iconst 2, 1) := by decide +kernel
theorem dX3_kindOfWord_32 : decode cX3_kindOfWord 32 = .ok (.ireturn, 1) := by decide +kernel
theorem dX3_kindOfWord_33 : decode cX3_kindOfWord 33 = .ok (.aload_n 0, 1) := by decide +kernel
theorem dX3_kindOfWord_34 : decode cX3_kindOfWord 34 = .ok (.ldc 109, 2) := by decide +kernel
theorem dX3_kindOfWord_36 : decode cX3_kindOfWord 36 = .ok (.invokevirtual 40, 3) := by decide +kernel
theorem dX3_kindOfWord_39 : decode cX3_kindOfWord 39 = .ok (.ifCond .eq 5, 3) := by decide +kernel
theorem dX3_kindOfWord_42 : decode cX3_kindOfWord 42 = .ok (.iconst 3, 1) := by decide +kernel
theorem dX3_kindOfWord_43 : decode cX3_kindOfWord 43 = .ok (.ireturn, 1) := by decide +kernel
theorem dX3_kindOfWord_44 : decode cX3_kindOfWord 44 = .ok (.aload_n 0, 1) := by decide +kernel
theorem dX3_kindOfWord_45 : decode cX3_kindOfWord 45 = .ok (.ldc 111, 2) := by decide +kernel
theorem dX3_kindOfWord_47 : decode cX3_kindOfWord 47 = .ok (.invokevirtual 40, 3) := by decide +kernel
theorem dX3_kindOfWord_50 : decode cX3_kindOfWord 50 = .ok (.ifCond .eq 5, 3) := by decide +kernel
theorem dX3_kindOfWord_53 : decode cX3_kindOfWord 53 = .ok (.iconst 4, 1) := by decide +kernel
theorem dX3_kindOfWord_54 : decode cX3_kindOfWord 54 = .ok (.ireturn, 1) := by decide +kernel
theorem dX3_kindOfWord_55 : decode cX3_kindOfWord 55 = .ok (.aload_n 0, 1) := by decide +kernel
theorem dX3_kindOfWord_56 : decode cX3_kindOfWord 56 = .ok (.ldc 113, 2) := by decide +kernel
theorem dX3_kindOfWord_58 : decode cX3_kindOfWord 58 = .ok (.invokevirtual 40, 3) := by decide +kernel
theorem dX3_kindOfWord_61 : decode cX3_kindOfWord 61 = .ok (.ifCond .eq 5, 3) := by decide +kernel
theorem dX3_kindOfWord_64 : decode cX3_kindOfWord 64 = .ok (.iconst 5, 1) := by decide +kernel
theorem dX3_kindOfWord_65 : decode cX3_kindOfWord 65 = .ok (.ireturn, 1) := by decide +kernel
theorem dX3_kindOfWord_66 : decode cX3_kindOfWord 66 = .ok (.aload_n 0, 1) := by decide +kernel
theorem dX3_kindOfWord_67 : decode cX3_kindOfWord 67 = .ok (.ldc 115, 2) := by decide +kernel
theorem dX3_kindOfWord_69 : decode cX3_kindOfWord 69 = .ok (.invokevirtual 40, 3) := by decide +kernel
theorem dX3_kindOfWord_72 : decode cX3_kindOfWord 72 = .ok (.ifCond .eq 8, 3) := by decide +kernel
theorem dX3_kindOfWord_75 : decode cX3_kindOfWord 75 = .ok (.bipush 6, 2) := by decide +kernel
theorem dX3_kindOfWord_77 : decode cX3_kindOfWord 77 = .ok (.goto 4, 3) := by decide +kernel
theorem dX3_kindOfWord_80 : decode cX3_kindOfWord 80 = .ok (.iconst (-1), 1) := by decide +kernel
theorem dX3_kindOfWord_81 : decode cX3_kindOfWord 81 = .ok (.ireturn, 1) := by decide +kernel
theorem dX3_isNumber_0 : decode cX3_isNumber 0 = .ok (.aload_n 0, 1) := by decide +kernel
theorem dX3_isNumber_1 : decode cX3_isNumber 1 = .ok (.getfield 19, 3) := by decide +kernel
theorem dX3_isNumber_4 : decode cX3_isNumber 4 = .ok (.iconst 2, 1) := by decide +kernel
theorem dX3_isNumber_5 : decode cX3_isNumber 5 = .ok (.if_icmp .ne 15, 3) := by decide +kernel
theorem dX3_isNumber_8 : decode cX3_isNumber 8 = .ok (.aload_n 0, 1) := by decide +kernel
theorem dX3_isNumber_9 : decode cX3_isNumber 9 = .ok (.getfield 28, 3) := by decide +kernel
theorem dX3_isNumber_12 : decode cX3_isNumber 12 = .ok (.iload_n 1, 1) := by decide +kernel
theorem dX3_isNumber_13 : decode cX3_isNumber 13 = .ok (.if_icmp .gt 7, 3) := by decide +kernel
theorem dX3_isNumber_16 : decode cX3_isNumber 16 = .ok (.iconst 1, 1) := by decide +kernel
theorem dX3_isNumber_17 : decode cX3_isNumber 17 = .ok (.goto 4, 3) := by decide +kernel
theorem dX3_isNumber_20 : decode cX3_isNumber 20 = .ok (.iconst 0, 1) := by decide +kernel
theorem dX3_isNumber_21 : decode cX3_isNumber 21 = .ok (.ireturn, 1) := by decide +kernel
theorem dX3_isWord_0 : decode cX3_isWord 0 = .ok (.aload_n 0, 1) := by decide +kernel
theorem dX3_isWord_1 : decode cX3_isWord 1 = .ok (.getfield 19, 3) := by decide +kernel
theorem dX3_isWord_4 : decode cX3_isWord 4 = .ok (.iconst 1, 1) := by decide +kernel
theorem dX3_isWord_5 : decode cX3_isWord 5 = .ok (.if_icmp .ne 19, 3) := by decide +kernel
theorem dX3_isWord_8 : decode cX3_isWord 8 = .ok (.aload_n 0, 1) := by decide +kernel
theorem dX3_isWord_9 : decode cX3_isWord 9 = .ok (.getfield 25, 3) := by decide +kernel
theorem dX3_isWord_12 : decode cX3_isWord 12 = .ok (.aload_n 0, 1) := by decide +kernel
theorem dX3_isWord_13 : decode cX3_isWord 13 = .ok (.getfield 22, 3) := by decide +kernel
theorem dX3_isWord_16 : decode cX3_isWord 16 = .ok (.isub, 1) := by decide +kernel
theorem dX3_isWord_17 : decode cX3_isWord 17 = .ok (.aload_n 1, 1) := by decide +kernel
theorem dX3_isWord_18 : decode cX3_isWord 18 = .ok (.invokevirtual 117, 3) := by decide +kernel
theorem dX3_isWord_21 : decode cX3_isWord 21 = .ok (.if_icmp .eq 5, 3) := by decide +kernel
theorem dX3_isWord_24 : decode cX3_isWord 24 = .ok (.iconst 0, 1) := by decide +kernel
theorem dX3_isWord_25 : decode cX3_isWord 25 = .ok (.ireturn, 1) := by decide +kernel
theorem dX3_isWord_26 : decode cX3_isWord 26 = .ok (.iconst 0, 1) := by decide +kernel
theorem dX3_isWord_27 : decode cX3_isWord 27 = .ok (.istore_n 2, 1) := by decide +kernel
theorem dX3_isWord_28 : decode cX3_isWord 28 = .ok (.iload_n 2, 1) := by decide +kernel
theorem dX3_isWord_29 : decode cX3_isWord 29 = .ok (.aload_n 1, 1) := by decide +kernel
theorem dX3_isWord_30 : decode cX3_isWord 30 = .ok (.invokevirtual 117, 3) := by decide +kernel
theorem dX3_isWord_33 : decode cX3_isWord 33 = .ok (.if_icmp .ge 30, 3) := by decide +kernel
theorem dX3_isWord_36 : decode cX3_isWord 36 = .ok (.aload_n 0, 1) := by decide +kernel
theorem dX3_isWord_37 : decode cX3_isWord 37 = .ok (.getfield 11, 3) := by decide +kernel
theorem dX3_isWord_40 : decode cX3_isWord 40 = .ok (.aload_n 0, 1) := by decide +kernel
theorem dX3_isWord_41 : decode cX3_isWord 41 = .ok (.getfield 22, 3) := by decide +kernel
theorem dX3_isWord_44 : decode cX3_isWord 44 = .ok (.iload_n 2, 1) := by decide +kernel
theorem dX3_isWord_45 : decode cX3_isWord 45 = .ok (.iadd, 1) := by decide +kernel
theorem dX3_isWord_46 : decode cX3_isWord 46 = .ok (.iaload, 1) := by decide +kernel
theorem dX3_isWord_47 : decode cX3_isWord 47 = .ok (.aload_n 1, 1) := by decide +kernel
theorem dX3_isWord_48 : decode cX3_isWord 48 = .ok (.iload_n 2, 1) := by decide +kernel
theorem dX3_isWord_49 : decode cX3_isWord 49 = .ok (.invokevirtual 121, 3) := by decide +kernel
theorem dX3_isWord_52 : decode cX3_isWord 52 = .ok (.if_icmp .eq 5, 3) := by decide +kernel
theorem dX3_isWord_55 : decode cX3_isWord 55 = .ok (.iconst 0, 1) := by decide +kernel
theorem dX3_isWord_56 : decode cX3_isWord 56 = .ok (.ireturn, 1) := by decide +kernel
theorem dX3_isWord_57 : decode cX3_isWord 57 = .ok (.iinc 2 1, 3) := by decide +kernel
theorem dX3_isWord_60 : decode cX3_isWord 60 = .ok (.goto (-32), 3) := by decide +kernel
theorem dX3_isWord_63 : decode cX3_isWord 63 = .ok (.iconst 1, 1) := by decide +kernel
theorem dX3_isWord_64 : decode cX3_isWord 64 = .ok (.ireturn, 1) := by decide +kernel
theorem dX3_step_0 : decode cX3_step 0 = .ok (.aload_n 0, 1) := by decide +kernel
theorem dX3_step_1 : decode cX3_step 1 = .ok (.aload_n 0, 1) := by decide +kernel
theorem dX3_step_2 : decode cX3_step 2 = .ok (.getfield 25, 3) := by decide +kernel
theorem dX3_step_5 : decode cX3_step 5 = .ok (.putfield 22, 3) := by decide +kernel
theorem dX3_step_8 : decode cX3_step 8 = .ok (.aload_n 0, 1) := by decide +kernel
theorem dX3_step_9 : decode cX3_step 9 = .ok (.getfield 22, 3) := by decide +kernel
theorem dX3_step_12 : decode cX3_step 12 = .ok (.aload_n 0, 1) := by decide +kernel
theorem dX3_step_13 : decode cX3_step 13 = .ok (.getfield 15, 3) := by decide +kernel
theorem dX3_step_16 : decode cX3_step 16 = .ok (.if_icmp .ge 30, 3) := by decide +kernel
theorem dX3_step_19 : decode cX3_step 19 = .ok (.aload_n 0, 1) := by decide +kernel
theorem dX3_step_20 : decode cX3_step 20 = .ok (.getfield 11, 3) := by decide +kernel
theorem dX3_step_23 : decode cX3_step 23 = .ok (.aload_n 0, 1) := by decide +kernel
theorem dX3_step_24 : decode cX3_step 24 = .ok (.getfield 22, 3) := by decide +kernel
theorem dX3_step_27 : decode cX3_step 27 = .ok (.iaload, 1) := by decide +kernel
theorem dX3_step_28 : decode cX3_step 28 = .ok (.bipush 32, 2) := by decide +kernel
theorem dX3_step_30 : decode cX3_step 30 = .ok (.if_icmp .ne 16, 3) := by decide +kernel
theorem dX3_step_33 : decode cX3_step 33 = .ok (.aload_n 0, 1) := by decide +kernel
theorem dX3_step_34 : decode cX3_step 34 = .ok (.dup, 1) := by decide +kernel
theorem dX3_step_35 : decode cX3_step 35 = .ok (.getfield 22, 3) := by decide +kernel
theorem dX3_step_38 : decode cX3_step 38 = .ok (.iconst 1, 1) := by decide +kernel
theorem dX3_step_39 : decode cX3_step 39 = .ok (.iadd, 1) := by decide +kernel
theorem dX3_step_40 : decode cX3_step 40 = .ok (.putfield 22, 3) := by decide +kernel
theorem dX3_step_43 : decode cX3_step 43 = .ok (.goto (-35), 3) := by decide +kernel
theorem dX3_step_46 : decode cX3_step 46 = .ok (.aload_n 0, 1) := by decide +kernel
theorem dX3_step_47 : decode cX3_step 47 = .ok (.aload_n 0, 1) := by decide +kernel
theorem dX3_step_48 : decode cX3_step 48 = .ok (.getfield 22, 3) := by decide +kernel
theorem dX3_step_51 : decode cX3_step 51 = .ok (.putfield 25, 3) := by decide +kernel
theorem dX3_step_54 : decode cX3_step 54 = .ok (.aload_n 0, 1) := by decide +kernel
theorem dX3_step_55 : decode cX3_step 55 = .ok (.getfield 22, 3) := by decide +kernel
theorem dX3_step_58 : decode cX3_step 58 = .ok (.aload_n 0, 1) := by decide +kernel
theorem dX3_step_59 : decode cX3_step 59 = .ok (.getfield 15, 3) := by decide +kernel
theorem dX3_step_62 : decode cX3_step 62 = .ok (.if_icmp .lt 11, 3) := by decide +kernel
theorem dX3_step_65 : decode cX3_step 65 = .ok (.aload_n 0, 1) := by decide +kernel
theorem dX3_step_66 : decode cX3_step 66 = .ok (.iconst 0, 1) := by decide +kernel
theorem dX3_step_67 : decode cX3_step 67 = .ok (.putfield 19, 3) := by decide +kernel
theorem dX3_step_70 : decode cX3_step 70 = .ok (.goto 122, 3) := by decide +kernel
theorem dX3_step_73 : decode cX3_step 73 = .ok (.aload_n 0, 1) := by decide +kernel
theorem dX3_step_74 : decode cX3_step 74 = .ok (.getfield 11, 3) := by decide +kernel
theorem dX3_step_77 : decode cX3_step 77 = .ok (.aload_n 0, 1) := by decide +kernel
theorem dX3_step_78 : decode cX3_step 78 = .ok (.getfield 22, 3) := by decide +kernel
theorem dX3_step_81 : decode cX3_step 81 = .ok (.iaload, 1) := by decide +kernel
theorem dX3_step_82 : decode cX3_step 82 = .ok (.invokestatic 125, 3) := by decide +kernel
theorem dX3_step_85 : decode cX3_step 85 = .ok (.ifCond .eq 47, 3) := by decide +kernel
theorem dX3_step_88 : decode cX3_step 88 = .ok (.aload_n 0, 1) := by decide +kernel
theorem dX3_step_89 : decode cX3_step 89 = .ok (.iconst 1, 1) := by decide +kernel
theorem dX3_step_90 : decode cX3_step 90 = .ok (.putfield 19, 3) := by decide +kernel
theorem dX3_step_93 : decode cX3_step 93 = .ok (.aload_n 0, 1) := by decide +kernel
theorem dX3_step_94 : decode cX3_step 94 = .ok (.getfield 25, 3) := by decide +kernel
theorem dX3_step_97 : decode cX3_step 97 = .ok (.aload_n 0, 1) := by decide +kernel
theorem dX3_step_98 : decode cX3_step 98 = .ok (.getfield 15, 3) := by decide +kernel
theorem dX3_step_101 : decode cX3_step 101 = .ok (.if_icmp .ge 91, 3) := by decide +kernel
theorem dX3_step_104 : decode cX3_step 104 = .ok (.aload_n 0, 1) := by decide +kernel
theorem dX3_step_105 : decode cX3_step 105 = .ok (.getfield 11, 3) := by decide +kernel
theorem dX3_step_108 : decode cX3_step 108 = .ok (.aload_n 0, 1) := by decide +kernel
theorem dX3_step_109 : decode cX3_step 109 = .ok (.getfield 25, 3) := by decide +kernel
theorem dX3_step_112 : decode cX3_step 112 = .ok (.iaload, 1) := by decide +kernel
theorem dX3_step_113 : decode cX3_step 113 = .ok (.invokestatic 125, 3) := by decide +kernel
theorem dX3_step_116 : decode cX3_step 116 = .ok (.ifCond .eq 76, 3) := by decide +kernel
theorem dX3_step_119 : decode cX3_step 119 = .ok (.aload_n 0, 1) := by decide +kernel
theorem dX3_step_120 : decode cX3_step 120 = .ok (.dup, 1) := by decide +kernel
theorem dX3_step_121 : decode cX3_step 121 = .ok (.getfield 25, 3) := by decide +kernel
theorem dX3_step_124 : decode cX3_step 124 = .ok (.iconst 1, 1) := by decide +kernel
theorem dX3_step_125 : decode cX3_step 125 = .ok (.iadd, 1) := by decide +kernel
theorem dX3_step_126 : decode cX3_step 126 = .ok (.putfield 25, 3) := by decide +kernel
theorem dX3_step_129 : decode cX3_step 129 = .ok (.goto (-36), 3) := by decide +kernel
theorem dX3_step_132 : decode cX3_step 132 = .ok (.aload_n 0, 1) := by decide +kernel
theorem dX3_step_133 : decode cX3_step 133 = .ok (.getfield 11, 3) := by decide +kernel
theorem dX3_step_136 : decode cX3_step 136 = .ok (.aload_n 0, 1) := by decide +kernel
theorem dX3_step_137 : decode cX3_step 137 = .ok (.getfield 22, 3) := by decide +kernel
theorem dX3_step_140 : decode cX3_step 140 = .ok (.iaload, 1) := by decide +kernel
theorem dX3_step_141 : decode cX3_step 141 = .ok (.invokestatic 128, 3) := by decide +kernel
theorem dX3_step_144 : decode cX3_step 144 = .ok (.ifCond .eq 15, 3) := by decide +kernel
theorem dX3_step_147 : decode cX3_step 147 = .ok (.aload_n 0, 1) := by decide +kernel
theorem dX3_step_148 : decode cX3_step 148 = .ok (.iconst 2, 1) := by decide +kernel
theorem dX3_step_149 : decode cX3_step 149 = .ok (.putfield 19, 3) := by decide +kernel
theorem dX3_step_152 : decode cX3_step 152 = .ok (.aload_n 0, 1) := by decide +kernel
theorem dX3_step_153 : decode cX3_step 153 = .ok (.invokevirtual 131, 3) := by decide +kernel
theorem dX3_step_156 : decode cX3_step 156 = .ok (.goto 36, 3) := by decide +kernel
theorem dX3_step_159 : decode cX3_step 159 = .ok (.aload_n 0, 1) := by decide +kernel
theorem dX3_step_160 : decode cX3_step 160 = .ok (.aload_n 0, 1) := by decide +kernel
theorem dX3_step_161 : decode cX3_step 161 = .ok (.getfield 11, 3) := by decide +kernel
theorem dX3_step_164 : decode cX3_step 164 = .ok (.aload_n 0, 1) := by decide +kernel
theorem dX3_step_165 : decode cX3_step 165 = .ok (.getfield 22, 3) := by decide +kernel
theorem dX3_step_168 : decode cX3_step 168 = .ok (.iaload, 1) := by decide +kernel
theorem dX3_step_169 : decode cX3_step 169 = .ok (.bipush 59, 2) := by decide +kernel
theorem dX3_step_171 : decode cX3_step 171 = .ok (.if_icmp .ne 7, 3) := by decide +kernel
theorem dX3_step_174 : decode cX3_step 174 = .ok (.iconst 3, 1) := by decide +kernel
theorem dX3_step_175 : decode cX3_step 175 = .ok (.goto 4, 3) := by decide +kernel
theorem dX3_step_178 : decode cX3_step 178 = .ok (.iconst 4, 1) := by decide +kernel
theorem dX3_step_179 : decode cX3_step 179 = .ok (.putfield 19, 3) := by decide +kernel
theorem dX3_step_182 : decode cX3_step 182 = .ok (.aload_n 0, 1) := by decide +kernel
theorem dX3_step_183 : decode cX3_step 183 = .ok (.dup, 1) := by decide +kernel
theorem dX3_step_184 : decode cX3_step 184 = .ok (.getfield 25, 3) := by decide +kernel
theorem dX3_step_187 : decode cX3_step 187 = .ok (.iconst 1, 1) := by decide +kernel
theorem dX3_step_188 : decode cX3_step 188 = .ok (.iadd, 1) := by decide +kernel
theorem dX3_step_189 : decode cX3_step 189 = .ok (.putfield 25, 3) := by decide +kernel
theorem dX3_step_192 : decode cX3_step 192 = .ok (.return_, 1) := by decide +kernel
theorem dX3_stepOverDigits_0 : decode cX3_stepOverDigits 0 = .ok (.aload_n 0, 1) := by decide +kernel
theorem dX3_stepOverDigits_1 : decode cX3_stepOverDigits 1 = .ok (.iconst 0, 1) := by decide +kernel
theorem dX3_stepOverDigits_2 : decode cX3_stepOverDigits 2 = .ok (.putfield 28, 3) := by decide +kernel
theorem dX3_stepOverDigits_5 : decode cX3_stepOverDigits 5 = .ok (.aload_n 0, 1) := by decide +kernel
theorem dX3_stepOverDigits_6 : decode cX3_stepOverDigits 6 = .ok (.getfield 25, 3) := by decide +kernel
theorem dX3_stepOverDigits_9 : decode cX3_stepOverDigits 9 = .ok (.aload_n 0, 1) := by decide +kernel
theorem dX3_stepOverDigits_10 : decode cX3_stepOverDigits 10 = .ok (.getfield 15, 3) := by decide +kernel
theorem dX3_stepOverDigits_13 : decode cX3_stepOverDigits 13 = .ok (.if_icmp .ge 61, 3) := by decide +kernel
theorem dX3_stepOverDigits_16 : decode cX3_stepOverDigits 16 = .ok (.aload_n 0, 1) := by decide +kernel
theorem dX3_stepOverDigits_17 : decode cX3_stepOverDigits 17 = .ok (.getfield 11, 3) := by decide +kernel
theorem dX3_stepOverDigits_20 : decode cX3_stepOverDigits 20 = .ok (.aload_n 0, 1) := by decide +kernel
theorem dX3_stepOverDigits_21 : decode cX3_stepOverDigits 21 = .ok (.getfield 25, 3) := by decide +kernel
theorem dX3_stepOverDigits_24 : decode cX3_stepOverDigits 24 = .ok (.iaload, 1) := by decide +kernel
theorem dX3_stepOverDigits_25 : decode cX3_stepOverDigits 25 = .ok (.invokestatic 128, 3) := by decide +kernel
theorem dX3_stepOverDigits_28 : decode cX3_stepOverDigits 28 = .ok (.ifCond .eq 46, 3) := by decide +kernel
theorem dX3_stepOverDigits_31 : decode cX3_stepOverDigits 31 = .ok (.aload_n 0, 1) := by decide +kernel
theorem dX3_stepOverDigits_32 : decode cX3_stepOverDigits 32 = .ok (.bipush 10, 2) := by decide +kernel
theorem dX3_stepOverDigits_34 : decode cX3_stepOverDigits 34 = .ok (.aload_n 0, 1) := by decide +kernel
theorem dX3_stepOverDigits_35 : decode cX3_stepOverDigits 35 = .ok (.getfield 28, 3) := by decide +kernel
theorem dX3_stepOverDigits_38 : decode cX3_stepOverDigits 38 = .ok (.imul, 1) := by decide +kernel
theorem dX3_stepOverDigits_39 : decode cX3_stepOverDigits 39 = .ok (.aload_n 0, 1) := by decide +kernel
theorem dX3_stepOverDigits_40 : decode cX3_stepOverDigits 40 = .ok (.getfield 11, 3) := by decide +kernel
theorem dX3_stepOverDigits_43 : decode cX3_stepOverDigits 43 = .ok (.aload_n 0, 1) := by decide +kernel
theorem dX3_stepOverDigits_44 : decode cX3_stepOverDigits 44 = .ok (.getfield 25, 3) := by decide +kernel
theorem dX3_stepOverDigits_47 : decode cX3_stepOverDigits 47 = .ok (.iaload, 1) := by decide +kernel
theorem dX3_stepOverDigits_48 : decode cX3_stepOverDigits 48 = .ok (.iadd, 1) := by decide +kernel
theorem dX3_stepOverDigits_49 : decode cX3_stepOverDigits 49 = .ok (.bipush 48, 2) := by decide +kernel
theorem dX3_stepOverDigits_51 : decode cX3_stepOverDigits 51 = .ok (.isub, 1) := by decide +kernel
theorem dX3_stepOverDigits_52 : decode cX3_stepOverDigits 52 = .ok (.sipush 1000, 3) := by decide +kernel
theorem dX3_stepOverDigits_55 : decode cX3_stepOverDigits 55 = .ok (.invokestatic 134, 3) := by decide +kernel
theorem dX3_stepOverDigits_58 : decode cX3_stepOverDigits 58 = .ok (.putfield 28, 3) := by decide +kernel
theorem dX3_stepOverDigits_61 : decode cX3_stepOverDigits 61 = .ok (.aload_n 0, 1) := by decide +kernel
theorem dX3_stepOverDigits_62 : decode cX3_stepOverDigits 62 = .ok (.dup, 1) := by decide +kernel
theorem dX3_stepOverDigits_63 : decode cX3_stepOverDigits 63 = .ok (.getfield 25, 3) := by decide +kernel
theorem dX3_stepOverDigits_66 : decode cX3_stepOverDigits 66 = .ok (.iconst 1, 1) := by decide +kernel
theorem dX3_stepOverDigits_67 : decode cX3_stepOverDigits 67 = .ok (.iadd, 1) := by decide +kernel
theorem dX3_stepOverDigits_68 : decode cX3_stepOverDigits 68 = .ok (.putfield 25, 3) := by decide +kernel
theorem dX3_stepOverDigits_71 : decode cX3_stepOverDigits 71 = .ok (.goto (-66), 3) := by decide +kernel
theorem dX3_stepOverDigits_74 : decode cX3_stepOverDigits 74 = .ok (.return_, 1) := by decide +kernel
theorem dX3_isLetter_0 : decode cX3_isLetter 0 = .ok (.iload_n 0, 1) := by decide +kernel
theorem dX3_isLetter_1 : decode cX3_isLetter 1 = .ok (.bipush 97, 2) := by decide +kernel
theorem dX3_isLetter_3 : decode cX3_isLetter 3 = .ok (.if_icmp .lt 13, 3) := by decide +kernel
theorem dX3_isLetter_6 : decode cX3_isLetter 6 = .ok (.iload_n 0, 1) := by decide +kernel
theorem dX3_isLetter_7 : decode cX3_isLetter 7 = .ok (.bipush 122, 2) := by decide +kernel
theorem dX3_isLetter_9 : decode cX3_isLetter 9 = .ok (.if_icmp .gt 7, 3) := by decide +kernel
theorem dX3_isLetter_12 : decode cX3_isLetter 12 = .ok (.iconst 1, 1) := by decide +kernel
theorem dX3_isLetter_13 : decode cX3_isLetter 13 = .ok (.goto 4, 3) := by decide +kernel
theorem dX3_isLetter_16 : decode cX3_isLetter 16 = .ok (.iconst 0, 1) := by decide +kernel
theorem dX3_isLetter_17 : decode cX3_isLetter 17 = .ok (.ireturn, 1) := by decide +kernel
theorem dX3_isDigit_0 : decode cX3_isDigit 0 = .ok (.iload_n 0, 1) := by decide +kernel
theorem dX3_isDigit_1 : decode cX3_isDigit 1 = .ok (.bipush 48, 2) := by decide +kernel
theorem dX3_isDigit_3 : decode cX3_isDigit 3 = .ok (.if_icmp .lt 13, 3) := by decide +kernel
theorem dX3_isDigit_6 : decode cX3_isDigit 6 = .ok (.iload_n 0, 1) := by decide +kernel
theorem dX3_isDigit_7 : decode cX3_isDigit 7 = .ok (.bipush 57, 2) := by decide +kernel
theorem dX3_isDigit_9 : decode cX3_isDigit 9 = .ok (.if_icmp .gt 7, 3) := by decide +kernel
theorem dX3_isDigit_12 : decode cX3_isDigit 12 = .ok (.iconst 1, 1) := by decide +kernel
theorem dX3_isDigit_13 : decode cX3_isDigit 13 = .ok (.goto 4, 3) := by decide +kernel
theorem dX3_isDigit_16 : decode cX3_isDigit 16 = .ok (.iconst 0, 1) := by decide +kernel
theorem dX3_isDigit_17 : decode cX3_isDigit 17 = .ok (.ireturn, 1) := by decide +kernel
theorem dX4_init_0 : decode cX4_init 0 = .ok (.aload_n 0, 1) := by decide +kernel
theorem dX4_init_1 : decode cX4_init 1 = .ok (.invokespecial 3, 3) := by decide +kernel
theorem dX4_init_4 : decode cX4_init 4 = .ok (.aload_n 0, 1) := by decide +kernel
theorem dX4_init_5 : decode cX4_init 5 = .ok (.new 9, 3) := by decide +kernel
theorem dX4_init_8 : decode cX4_init 8 = .ok (.dup, 1) := by decide +kernel
theorem dX4_init_9 : decode cX4_init 9 = .ok (.invokespecial 11, 3) := by decide +kernel
theorem dX4_init_12 : decode cX4_init 12 = .ok (.putfield 12, 3) := by decide +kernel
theorem dX4_init_15 : decode cX4_init 15 = .ok (.aload_n 0, 1) := by decide +kernel
theorem dX4_init_16 : decode cX4_init 16 = .ok (.new 9, 3) := by decide +kernel
theorem dX4_init_19 : decode cX4_init 19 = .ok (.dup, 1) := by decide +kernel
theorem dX4_init_20 : decode cX4_init 20 = .ok (.invokespecial 11, 3) := by decide +kernel
theorem dX4_init_23 : decode cX4_init 23 = .ok (.putfield 16, 3) := by decide +kernel
theorem dX4_init_26 : decode cX4_init 26 = .ok (.aload_n 0, 1) := by decide +kernel
theorem dX4_init_27 : decode cX4_init 27 = .ok (.new 9, 3) := by decide +kernel
theorem dX4_init_30 : decode cX4_init 30 = .ok (.dup, 1) := by decide +kernel
theorem dX4_init_31 : decode cX4_init 31 = .ok (.invokespecial 11, 3) := by decide +kernel
theorem dX4_init_34 : decode cX4_init 34 = .ok (.putfield 19, 3) := by decide +kernel
theorem dX4_init_37 : decode cX4_init 37 = .ok (.aload_n 0, 1) := by decide +kernel
theorem dX4_init_38 : decode cX4_init 38 = .ok (.new 22, 3) := by decide +kernel
theorem dX4_init_41 : decode cX4_init 41 = .ok (.dup, 1) := by decide +kernel
theorem dX4_init_42 : decode cX4_init 42 = .ok (.invokespecial 24, 3) := by decide +kernel
theorem dX4_init_45 : decode cX4_init 45 = .ok (.putfield 25, 3) := by decide +kernel
theorem dX4_init_48 : decode cX4_init 48 = .ok (.aload_n 0, 1) := by decide +kernel
theorem dX4_init_49 : decode cX4_init 49 = .ok (.new 29, 3) := by decide +kernel
theorem dX4_init_52 : decode cX4_init 52 = .ok (.dup, 1) := by decide +kernel
theorem dX4_init_53 : decode cX4_init 53 = .ok (.invokespecial 31, 3) := by decide +kernel
theorem dX4_init_56 : decode cX4_init 56 = .ok (.putfield 32, 3) := by decide +kernel
theorem dX4_init_59 : decode cX4_init 59 = .ok (.aload_n 0, 1) := by decide +kernel
theorem dX4_init_60 : decode cX4_init 60 = .ok (.iconst 4, 1) := by decide +kernel
theorem dX4_init_61 : decode cX4_init 61 = .ok (.anewarray 36, 3) := by decide +kernel
theorem dX4_init_64 : decode cX4_init 64 = .ok (.putfield 38, 3) := by decide +kernel
theorem dX4_init_67 : decode cX4_init 67 = .ok (.aload_n 0, 1) := by decide +kernel
theorem dX4_init_68 : decode cX4_init 68 = .ok (.bipush 12, 2) := by decide +kernel
theorem dX4_init_70 : decode cX4_init 70 = .ok (.newarray .int, 2) := by decide +kernel
theorem dX4_init_72 : decode cX4_init 72 = .ok (.putfield 42, 3) := by decide +kernel
theorem dX4_init_75 : decode cX4_init 75 = .ok (.aload_n 0, 1) := by decide +kernel
theorem dX4_init_76 : decode cX4_init 76 = .ok (.bipush 12, 2) := by decide +kernel
theorem dX4_init_78 : decode cX4_init 78 = .ok (.newarray .int, 2) := by decide +kernel
theorem dX4_init_80 : decode cX4_init 80 = .ok (.putfield 46, 3) := by decide +kernel
theorem dX4_init_83 : decode cX4_init 83 = .ok (.aload_n 0, 1) := by decide +kernel
theorem dX4_init_84 : decode cX4_init 84 = .ok (.bipush 7, 2) := by decide +kernel
theorem dX4_init_86 : decode cX4_init 86 = .ok (.newarray .int, 2) := by decide +kernel
theorem dX4_init_88 : decode cX4_init 88 = .ok (.putfield 49, 3) := by decide +kernel
theorem dX4_init_91 : decode cX4_init 91 = .ok (.aload_n 0, 1) := by decide +kernel
theorem dX4_init_92 : decode cX4_init 92 = .ok (.iconst 0, 1) := by decide +kernel
theorem dX4_init_93 : decode cX4_init 93 = .ok (.putfield 52, 3) := by decide +kernel
theorem dX4_init_96 : decode cX4_init 96 = .ok (.iconst 0, 1) := by decide +kernel
theorem dX4_init_97 : decode cX4_init 97 = .ok (.istore_n 1, 1) := by decide +kernel
theorem dX4_init_98 : decode cX4_init 98 = .ok (.iload_n 1, 1) := by decide +kernel
theorem dX4_init_99 : decode cX4_init 99 = .ok (.iconst 4, 1) := by decide +kernel
theorem dX4_init_100 : decode cX4_init 100 = .ok (.if_icmp .ge 22, 3) := by decide +kernel
theorem dX4_init_103 : decode cX4_init 103 = .ok (.aload_n 0, 1) := by decide +kernel
theorem dX4_init_104 : decode cX4_init 104 = .ok (.getfield 38, 3) := by decide +kernel
theorem dX4_init_107 : decode cX4_init 107 = .ok (.iload_n 1, 1) := by decide +kernel
theorem dX4_init_108 : decode cX4_init 108 = .ok (.new 36, 3) := by decide +kernel
theorem dX4_init_111 : decode cX4_init 111 = .ok (.dup, 1) := by decide +kernel
theorem dX4_init_112 : decode cX4_init 112 = .ok (.invokespecial 56, 3) := by decide +kernel
theorem dX4_init_115 : decode cX4_init 115 = .ok (.aastore, 1) := by decide +kernel
theorem dX4_init_116 : decode cX4_init 116 = .ok (.iinc 1 1, 3) := by decide +kernel
theorem dX4_init_119 : decode cX4_init 119 = .ok (.goto (-21), 3) := by decide +kernel
theorem dX4_init_122 : decode cX4_init 122 = .ok (.return_, 1) := by decide +kernel
theorem dX4_worth_0 : decode cX4_worth 0 = .ok (.iload_n 1, 1) := by decide +kernel
theorem dX4_worth_1 : decode cX4_worth 1 = .ok (.invokestatic 57, 3) := by decide +kernel
theorem dX4_worth_4 : decode cX4_worth 4 = .ok (.ifCond .eq 13, 3) := by decide +kernel
theorem dX4_worth_7 : decode cX4_worth 7 = .ok (.iload_n 2, 1) := by decide +kernel
theorem dX4_worth_8 : decode cX4_worth 8 = .ok (.iconst 0, 1) := by decide +kernel
theorem dX4_worth_9 : decode cX4_worth 9 = .ok (.bipush 40, 2) := by decide +kernel
theorem dX4_worth_11 : decode cX4_worth 11 = .ok (.invokestatic 61, 3) := by decide +kernel
theorem dX4_worth_14 : decode cX4_worth 14 = .ok (.ifCond .ne 10, 3) := by decide +kernel
theorem dX4_worth_17 : decode cX4_worth 17 = .ok (.aload_n 0, 1) := by decide +kernel
theorem dX4_worth_18 : decode cX4_worth 18 = .ok (.ldc 65, 2) := by decide +kernel
theorem dX4_worth_20 : decode cX4_worth 20 = .ok (.invokevirtual 66, 3) := by decide +kernel
theorem dX4_worth_23 : decode cX4_worth 23 = .ok (.ireturn, 1) := by decide +kernel
theorem dX4_worth_24 : decode cX4_worth 24 = .ok (.aload_n 0, 1) := by decide +kernel
theorem dX4_worth_25 : decode cX4_worth 25 = .ok (.getfield 12, 3) := by decide +kernel
theorem dX4_worth_28 : decode cX4_worth 28 = .ok (.getfield 70, 3) := by decide +kernel
theorem dX4_worth_31 : decode cX4_worth 31 = .ok (.iload_n 1, 1) := by decide +kernel
theorem dX4_worth_32 : decode cX4_worth 32 = .ok (.iaload, 1) := by decide +kernel
theorem dX4_worth_33 : decode cX4_worth 33 = .ok (.istore_n 3, 1) := by decide +kernel
theorem dX4_worth_34 : decode cX4_worth 34 = .ok (.aload_n 0, 1) := by decide +kernel
theorem dX4_worth_35 : decode cX4_worth 35 = .ok (.getfield 12, 3) := by decide +kernel
theorem dX4_worth_38 : decode cX4_worth 38 = .ok (.iload_n 1, 1) := by decide +kernel
theorem dX4_worth_39 : decode cX4_worth 39 = .ok (.iload_n 2, 1) := by decide +kernel
theorem dX4_worth_40 : decode cX4_worth 40 = .ok (.invokevirtual 73, 3) := by decide +kernel
theorem dX4_worth_43 : decode cX4_worth 43 = .ok (.iload_n 3, 1) := by decide +kernel
theorem dX4_worth_44 : decode cX4_worth 44 = .ok (.ireturn, 1) := by decide +kernel
theorem dX4_common_0 : decode cX4_common 0 = .ok (.iload_n 1, 1) := by decide +kernel
theorem dX4_common_1 : decode cX4_common 1 = .ok (.invokestatic 57, 3) := by decide +kernel
theorem dX4_common_4 : decode cX4_common 4 = .ok (.ifCond .eq 14, 3) := by decide +kernel
theorem dX4_common_7 : decode cX4_common 7 = .ok (.iload_n 2, 1) := by decide +kernel
theorem dX4_common_8 : decode cX4_common 8 = .ok (.iconst (-1), 1) := by decide +kernel
theorem dX4_common_9 : decode cX4_common 9 = .ok (.sipush 400, 3) := by decide +kernel
theorem dX4_common_12 : decode cX4_common 12 = .ok (.invokestatic 61, 3) := by decide +kernel
theorem dX4_common_15 : decode cX4_common 15 = .ok (.ifCond .ne 10, 3) := by decide +kernel
theorem dX4_common_18 : decode cX4_common 18 = .ok (.aload_n 0, 1) := by decide +kernel
theorem dX4_common_19 : decode cX4_common 19 = .ok (.ldc 65, 2) := by decide +kernel
theorem dX4_common_21 : decode cX4_common 21 = .ok (.invokevirtual 66, 3) := by decide +kernel
theorem dX4_common_24 : decode cX4_common 24 = .ok (.ireturn, 1) := by decide +kernel
theorem dX4_common_25 : decode cX4_common 25 = .ok (.aload_n 0, 1) := by decide +kernel
theorem dX4_common_26 : decode cX4_common 26 = .ok (.getfield 12, 3) := by decide +kernel
theorem dX4_common_29 : decode cX4_common 29 = .ok (.getfield 77, 3) := by decide +kernel
theorem dX4_common_32 : decode cX4_common 32 = .ok (.iload_n 1, 1) := by decide +kernel
theorem dX4_common_33 : decode cX4_common 33 = .ok (.iaload, 1) := by decide +kernel
theorem dX4_common_34 : decode cX4_common 34 = .ok (.istore_n 3, 1) := by decide +kernel
theorem dX4_common_35 : decode cX4_common 35 = .ok (.aload_n 0, 1) := by decide +kernel
theorem dX4_common_36 : decode cX4_common 36 = .ok (.getfield 12, 3) := by decide +kernel
theorem dX4_common_39 : decode cX4_common 39 = .ok (.getfield 77, 3) := by decide +kernel
theorem dX4_common_42 : decode cX4_common 42 = .ok (.iload_n 1, 1) := by decide +kernel
theorem dX4_common_43 : decode cX4_common 43 = .ok (.iload_n 2, 1) := by decide +kernel
theorem dX4_common_44 : decode cX4_common 44 = .ok (.iastore, 1) := by decide +kernel
theorem dX4_common_45 : decode cX4_common 45 = .ok (.iload_n 3, 1) := by decide +kernel
theorem dX4_common_46 : decode cX4_common 46 = .ok (.ireturn, 1) := by decide +kernel
theorem dX4_pupil_0 : decode cX4_pupil 0 = .ok (.iload_n 1, 1) := by decide +kernel
theorem dX4_pupil_1 : decode cX4_pupil 1 = .ok (.iconst 0, 1) := by decide +kernel
theorem dX4_pupil_2 : decode cX4_pupil 2 = .ok (.iconst 3, 1) := by decide +kernel
theorem dX4_pupil_3 : decode cX4_pupil 3 = .ok (.invokestatic 61, 3) := by decide +kernel
theorem dX4_pupil_6 : decode cX4_pupil 6 = .ok (.ifCond .ne 10, 3) := by decide +kernel
theorem dX4_pupil_9 : decode cX4_pupil 9 = .ok (.aload_n 0, 1) := by decide +kernel
theorem dX4_pupil_10 : decode cX4_pupil 10 = .ok (.ldc 65, 2) := by decide +kernel
theorem dX4_pupil_12 : decode cX4_pupil 12 = .ok (.invokevirtual 66, 3) := by decide +kernel
theorem dX4_pupil_15 : decode cX4_pupil 15 = .ok (.ireturn, 1) := by decide +kernel
theorem dX4_pupil_16 : decode cX4_pupil 16 = .ok (.aload_n 0, 1) := by decide +kernel
theorem dX4_pupil_17 : decode cX4_pupil 17 = .ok (.getfield 12, 3) := by decide +kernel
theorem dX4_pupil_20 : decode cX4_pupil 20 = .ok (.getfield 80, 3) := by decide +kernel
theorem dX4_pupil_23 : decode cX4_pupil 23 = .ok (.bipush 12, 2) := by decide +kernel
theorem dX4_pupil_25 : decode cX4_pupil 25 = .ok (.if_icmp .lt 10, 3) := by decide +kernel
theorem dX4_pupil_28 : decode cX4_pupil 28 = .ok (.aload_n 0, 1) := by decide +kernel
theorem dX4_pupil_29 : decode cX4_pupil 29 = .ok (.ldc 84, 2) := by decide +kernel
theorem dX4_pupil_31 : decode cX4_pupil 31 = .ok (.invokevirtual 66, 3) := by decide +kernel
theorem dX4_pupil_34 : decode cX4_pupil 34 = .ok (.ireturn, 1) := by decide +kernel
theorem dX4_pupil_35 : decode cX4_pupil 35 = .ok (.aload_n 0, 1) := by decide +kernel
theorem dX4_pupil_36 : decode cX4_pupil 36 = .ok (.getfield 12, 3) := by decide +kernel
theorem dX4_pupil_39 : decode cX4_pupil 39 = .ok (.iload_n 1, 1) := by decide +kernel
theorem dX4_pupil_40 : decode cX4_pupil 40 = .ok (.invokevirtual 85, 3) := by decide +kernel
theorem dX4_pupil_43 : decode cX4_pupil 43 = .ok (.ireturn, 1) := by decide +kernel
theorem dX4_point_0 : decode cX4_point 0 = .ok (.aload_n 0, 1) := by decide +kernel
theorem dX4_point_1 : decode cX4_point 1 = .ok (.iload_n 1, 1) := by decide +kernel
theorem dX4_point_2 : decode cX4_point 2 = .ok (.invokevirtual 88, 3) := by decide +kernel
theorem dX4_point_5 : decode cX4_point 5 = .ok (.ifCond .eq 17, 3) := by decide +kernel
theorem dX4_point_8 : decode cX4_point 8 = .ok (.iload_n 2, 1) := by decide +kernel
theorem dX4_point_9 : decode cX4_point 9 = .ok (.invokestatic 57, 3) := by decide +kernel
theorem dX4_point_12 : decode cX4_point 12 = .ok (.ifCond .eq 10, 3) := by decide +kernel
theorem dX4_point_15 : decode cX4_point 15 = .ok (.iload_n 3, 1) := by decide +kernel
theorem dX4_point_16 : decode cX4_point 16 = .ok (.invokestatic 91, 3) := by decide +kernel
theorem dX4_point_19 : decode cX4_point 19 = .ok (.ifCond .ne 10, 3) := by decide +kernel
theorem dX4_point_22 : decode cX4_point 22 = .ok (.aload_n 0, 1) := by decide +kernel
theorem dX4_point_23 : decode cX4_point 23 = .ok (.ldc 65, 2) := by decide +kernel
theorem dX4_point_25 : decode cX4_point 25 = .ok (.invokevirtual 66, 3) := by decide +kernel
theorem dX4_point_28 : decode cX4_point 28 = .ok (.ireturn, 1) := by decide +kernel
theorem dX4_point_29 : decode cX4_point 29 = .ok (.iload 4, 2) := by decide +kernel
theorem dX4_point_31 : decode cX4_point 31 = .ok (.iconst 0, 1) := by decide +kernel
theorem dX4_point_32 : decode cX4_point 32 = .ok (.aload_n 0, 1) := by decide +kernel
theorem dX4_point_33 : decode cX4_point 33 = .ok (.getfield 12, 3) := by decide +kernel
theorem dX4_point_36 : decode cX4_point 36 = .ok (.getfield 70, 3) := by decide +kernel
theorem dX4_point_39 : decode cX4_point 39 = .ok (.iload_n 2, 1) := by decide +kernel
theorem dX4_point_40 : decode cX4_point 40 = .ok (.iaload, 1) := by decide +kernel
theorem dX4_point_41 : decode cX4_point 41 = .ok (.invokestatic 61, 3) := by decide +kernel
theorem dX4_point_44 : decode cX4_point 44 = .ok (.ifCond .ne 10, 3) := by decide +kernel
theorem dX4_point_47 : decode cX4_point 47 = .ok (.aload_n 0, 1) := by decide +kernel
theorem dX4_point_48 : decode cX4_point 48 = .ok (.ldc 65, 2) := by decide +kernel
theorem dX4_point_50 : decode cX4_point 50 = .ok (.invokevirtual 66, 3) := by decide +kernel
theorem dX4_point_53 : decode cX4_point 53 = .ok (.ireturn, 1) := by decide +kernel
theorem dX4_point_54 : decode cX4_point 54 = .ok (.iload_n 1, 1) := by decide +kernel
theorem dX4_point_55 : decode cX4_point 55 = .ok (.iload_n 2, 1) := by decide +kernel
theorem dX4_point_56 : decode cX4_point 56 = .ok (.iload_n 3, 1) := by decide +kernel
theorem dX4_point_57 : decode cX4_point 57 = .ok (.invokestatic 94, 3) := by decide +kernel
theorem dX4_point_60 : decode cX4_point 60 = .ok (.istore 5, 2) := by decide +kernel
theorem dX4_point_62 : decode cX4_point 62 = .ok (.aload_n 0, 1) := by decide +kernel
theorem dX4_point_63 : decode cX4_point 63 = .ok (.getfield 12, 3) := by decide +kernel
theorem dX4_point_66 : decode cX4_point 66 = .ok (.getfield 98, 3) := by decide +kernel
theorem dX4_point_69 : decode cX4_point 69 = .ok (.iload 5, 2) := by decide +kernel
theorem dX4_point_71 : decode cX4_point 71 = .ok (.iaload, 1) := by decide +kernel
theorem dX4_point_72 : decode cX4_point 72 = .ok (.istore 6, 2) := by decide +kernel
theorem dX4_point_74 : decode cX4_point 74 = .ok (.aload_n 0, 1) := by decide +kernel
theorem dX4_point_75 : decode cX4_point 75 = .ok (.getfield 12, 3) := by decide +kernel
theorem dX4_point_78 : decode cX4_point 78 = .ok (.getfield 98, 3) := by decide +kernel
theorem dX4_point_81 : decode cX4_point 81 = .ok (.iload 5, 2) := by decide +kernel
theorem dX4_point_83 : decode cX4_point 83 = .ok (.iload 4, 2) := by decide +kernel
theorem dX4_point_85 : decode cX4_point 85 = .ok (.iastore, 1) := by decide +kernel
theorem dX4_point_86 : decode cX4_point 86 = .ok (.iload 6, 2) := by decide +kernel
theorem dX4_point_88 : decode cX4_point 88 = .ok (.ireturn, 1) := by decide +kernel
theorem dX4_pupilOf_0 : decode cX4_pupilOf 0 = .ok (.aload_n 0, 1) := by decide +kernel
theorem dX4_pupilOf_1 : decode cX4_pupilOf 1 = .ok (.iload_n 1, 1) := by decide +kernel
theorem dX4_pupilOf_2 : decode cX4_pupilOf 2 = .ok (.invokevirtual 88, 3) := by decide +kernel
theorem dX4_pupilOf_5 : decode cX4_pupilOf 5 = .ok (.ifCond .eq 13, 3) := by decide +kernel
theorem dX4_pupilOf_8 : decode cX4_pupilOf 8 = .ok (.iload_n 2, 1) := by decide +kernel
theorem dX4_pupilOf_9 : decode cX4_pupilOf 9 = .ok (.iconst 0, 1) := by decide +kernel
theorem dX4_pupilOf_10 : decode cX4_pupilOf 10 = .ok (.bipush 9, 2) := by decide +kernel
theorem dX4_pupilOf_12 : decode cX4_pupilOf 12 = .ok (.invokestatic 61, 3) := by decide +kernel
theorem dX4_pupilOf_15 : decode cX4_pupilOf 15 = .ok (.ifCond .ne 10, 3) := by decide +kernel
theorem dX4_pupilOf_18 : decode cX4_pupilOf 18 = .ok (.aload_n 0, 1) := by decide +kernel
theorem dX4_pupilOf_19 : decode cX4_pupilOf 19 = .ok (.ldc 65, 2) := by decide +kernel
theorem dX4_pupilOf_21 : decode cX4_pupilOf 21 = .ok (.invokevirtual 66, 3) := by decide +kernel
theorem dX4_pupilOf_24 : decode cX4_pupilOf 24 = .ok (.ireturn, 1) := by decide +kernel
theorem dX4_pupilOf_25 : decode cX4_pupilOf 25 = .ok (.iload_n 2, 1) := by decide +kernel
theorem dX4_pupilOf_26 : decode cX4_pupilOf 26 = .ok (.ifCond .ne 13, 3) := by decide +kernel
theorem dX4_pupilOf_29 : decode cX4_pupilOf 29 = .ok (.aload_n 0, 1) := by decide +kernel
theorem dX4_pupilOf_30 : decode cX4_pupilOf 30 = .ok (.getfield 12, 3) := by decide +kernel
theorem dX4_pupilOf_33 : decode cX4_pupilOf 33 = .ok (.getfield 101, 3) := by decide +kernel
theorem dX4_pupilOf_36 : decode cX4_pupilOf 36 = .ok (.iload_n 1, 1) := by decide +kernel
theorem dX4_pupilOf_37 : decode cX4_pupilOf 37 = .ok (.iaload, 1) := by decide +kernel
theorem dX4_pupilOf_38 : decode cX4_pupilOf 38 = .ok (.ireturn, 1) := by decide +kernel
theorem dX4_pupilOf_39 : decode cX4_pupilOf 39 = .ok (.iload_n 2, 1) := by decide +kernel
theorem dX4_pupilOf_40 : decode cX4_pupilOf 40 = .ok (.iconst 1, 1) := by decide +kernel
theorem dX4_pupilOf_41 : decode cX4_pupilOf 41 = .ok (.if_icmp .ne 14, 3) := by decide +kernel
theorem dX4_pupilOf_44 : decode cX4_pupilOf 44 = .ok (.aload_n 0, 1) := by decide +kernel
theorem dX4_pupilOf_45 : decode cX4_pupilOf 45 = .ok (.getfield 12, 3) := by decide +kernel
theorem dX4_pupilOf_48 : decode cX4_pupilOf 48 = .ok (.iload_n 1, 1) := by decide +kernel
theorem dX4_pupilOf_49 : decode cX4_pupilOf 49 = .ok (.invokevirtual 104, 3) := by decide +kernel
theorem dX4_pupilOf_52 : decode cX4_pupilOf 52 = .ok (.goto 14, 3) := by decide +kernel
theorem dX4_pupilOf_55 : decode cX4_pupilOf 55 = .ok (.aload_n 0, 1) := by decide +kernel
theorem dX4_pupilOf_56 : decode cX4_pupilOf 56 = .ok (.getfield 12, 3) := by decide +kernel
theorem dX4_pupilOf_59 : decode cX4_pupilOf 59 = .ok (.iload_n 1, 1) := by decide +kernel
theorem dX4_pupilOf_60 : decode cX4_pupilOf 60 = .ok (.iload_n 2, 1) := by decide +kernel
theorem dX4_pupilOf_61 : decode cX4_pupilOf 61 = .ok (.iconst 2, 1) := by decide +kernel
theorem dX4_pupilOf_62 : decode cX4_pupilOf 62 = .ok (.isub, 1) := by decide +kernel
theorem dX4_pupilOf_63 : decode cX4_pupilOf 63 = .ok (.invokevirtual 107, 3) := by decide +kernel
theorem dX4_pupilOf_66 : decode cX4_pupilOf 66 = .ok (.ireturn, 1) := by decide +kernel
theorem dX4_paper_0 : decode cX4_paper 0 = .ok (.iload_n 1, 1) := by decide +kernel
theorem dX4_paper_1 : decode cX4_paper 1 = .ok (.iconst 0, 1) := by decide +kernel
theorem dX4_paper_2 : decode cX4_paper 2 = .ok (.iconst 5, 1) := by decide +kernel
theorem dX4_paper_3 : decode cX4_paper 3 = .ok (.invokestatic 61, 3) := by decide +kernel
theorem dX4_paper_6 : decode cX4_paper 6 = .ok (.ifCond .ne 10, 3) := by decide +kernel
theorem dX4_paper_9 : decode cX4_paper 9 = .ok (.aload_n 0, 1) := by decide +kernel
theorem dX4_paper_10 : decode cX4_paper 10 = .ok (.ldc 65, 2) := by decide +kernel
theorem dX4_paper_12 : decode cX4_paper 12 = .ok (.invokevirtual 66, 3) := by decide +kernel
theorem dX4_paper_15 : decode cX4_paper 15 = .ok (.ireturn, 1) := by decide +kernel
theorem dX4_paper_16 : decode cX4_paper 16 = .ok (.iload_n 1, 1) := by decide +kernel
theorem dX4_paper_17 : decode cX4_paper 17 = .ok (.iconst 1, 1) := by decide +kernel
theorem dX4_paper_18 : decode cX4_paper 18 = .ok (.if_icmp .eq 8, 3) := by decide +kernel
theorem dX4_paper_21 : decode cX4_paper 21 = .ok (.iload_n 1, 1) := by decide +kernel
theorem dX4_paper_22 : decode cX4_paper 22 = .ok (.iconst 3, 1) := by decide +kernel
theorem dX4_paper_23 : decode cX4_paper 23 = .ok (.if_icmp .ne 20, 3) := by decide +kernel
theorem dX4_paper_26 : decode cX4_paper 26 = .ok (.aload_n 0, 1) := by decide +kernel
theorem dX4_paper_27 : decode cX4_paper 27 = .ok (.getfield 12, 3) := by decide +kernel
theorem dX4_paper_30 : decode cX4_paper 30 = .ok (.getfield 80, 3) := by decide +kernel
theorem dX4_paper_33 : decode cX4_paper 33 = .ok (.ifCond .ne 10, 3) := by decide +kernel
theorem dX4_paper_36 : decode cX4_paper 36 = .ok (.aload_n 0, 1) := by decide +kernel
theorem dX4_paper_37 : decode cX4_paper 37 = .ok (.ldc 111, 2) := by decide +kernel
theorem dX4_paper_39 : decode cX4_paper 39 = .ok (.invokevirtual 66, 3) := by decide +kernel
theorem dX4_paper_42 : decode cX4_paper 42 = .ok (.ireturn, 1) := by decide +kernel
theorem dX4_paper_43 : decode cX4_paper 43 = .ok (.aload_n 0, 1) := by decide +kernel
theorem dX4_paper_44 : decode cX4_paper 44 = .ok (.getfield 25, 3) := by decide +kernel
theorem dX4_paper_47 : decode cX4_paper 47 = .ok (.aload_n 0, 1) := by decide +kernel
theorem dX4_paper_48 : decode cX4_paper 48 = .ok (.getfield 12, 3) := by decide +kernel
theorem dX4_paper_51 : decode cX4_paper 51 = .ok (.invokevirtual 112, 3) := by decide +kernel
theorem dX4_paper_54 : decode cX4_paper 54 = .ok (.iload_n 1, 1) := by decide +kernel
theorem dX4_paper_55 : decode cX4_paper 55 = .ok (.tableswitch 73 0 4 #[33, 41, 49, 57, 65], 33) := by decide +kernel
theorem dX4_paper_88 : decode cX4_paper 88 = .ok (.aload_n 0, 1) := by decide +kernel
theorem dX4_paper_89 : decode cX4_paper 89 = .ok (.getfield 25, 3) := by decide +kernel
theorem dX4_paper_92 : decode cX4_paper 92 = .ok (.getfield 116, 3) := by decide +kernel
theorem dX4_paper_95 : decode cX4_paper 95 = .ok (.ireturn, 1) := by decide +kernel
theorem dX4_paper_96 : decode cX4_paper 96 = .ok (.aload_n 0, 1) := by decide +kernel
theorem dX4_paper_97 : decode cX4_paper 97 = .ok (.getfield 25, 3) := by decide +kernel
theorem dX4_paper_100 : decode cX4_paper 100 = .ok (.invokevirtual 119, 3) := by decide +kernel
theorem dX4_paper_103 : decode cX4_paper 103 = .ok (.ireturn, 1) := by decide +kernel
theorem dX4_paper_104 : decode cX4_paper 104 = .ok (.aload_n 0, 1) := by decide +kernel
theorem dX4_paper_105 : decode cX4_paper 105 = .ok (.getfield 25, 3) := by decide +kernel
theorem dX4_paper_108 : decode cX4_paper 108 = .ok (.getfield 123, 3) := by decide +kernel
theorem dX4_paper_111 : decode cX4_paper 111 = .ok (.ireturn, 1) := by decide +kernel
theorem dX4_paper_112 : decode cX4_paper 112 = .ok (.aload_n 0, 1) := by decide +kernel
theorem dX4_paper_113 : decode cX4_paper 113 = .ok (.getfield 25, 3) := by decide +kernel
theorem dX4_paper_116 : decode cX4_paper 116 = .ok (.invokevirtual 126, 3) := by decide +kernel
theorem dX4_paper_119 : decode cX4_paper 119 = .ok (.ireturn, 1) := by decide +kernel
theorem dX4_paper_120 : decode cX4_paper 120 = .ok (.aload_n 0, 1) := by decide +kernel
theorem dX4_paper_121 : decode cX4_paper 121 = .ok (.getfield 25, 3) := by decide +kernel
theorem dX4_paper_124 : decode cX4_paper 124 = .ok (.invokevirtual 129, 3) := by decide +kernel
theorem dX4_paper_127 : decode cX4_paper 127 = .ok (.ireturn, 1) := by decide +kernel
theorem dX4_paper_128 : decode cX4_paper 128 = .ok (.aload_n 0, 1) := by decide +kernel
theorem dX4_paper_129 : decode cX4_paper 129 = .ok (.getfield 25, 3) := by decide +kernel
theorem dX4_paper_132 : decode cX4_paper 132 = .ok (.getfield 132, 3) := by decide +kernel
theorem dX4_paper_135 : decode cX4_paper 135 = .ok (.ireturn, 1) := by decide +kernel
theorem dX4_drawn_0 : decode cX4_drawn 0 = .ok (.aload_n 0, 1) := by decide +kernel
theorem dX4_drawn_1 : decode cX4_drawn 1 = .ok (.iload_n 1, 1) := by decide +kernel
theorem dX4_drawn_2 : decode cX4_drawn 2 = .ok (.invokevirtual 88, 3) := by decide +kernel
theorem dX4_drawn_5 : decode cX4_drawn 5 = .ok (.ifCond .eq 10, 3) := by decide +kernel
theorem dX4_drawn_8 : decode cX4_drawn 8 = .ok (.iload_n 2, 1) := by decide +kernel
theorem dX4_drawn_9 : decode cX4_drawn 9 = .ok (.invokestatic 91, 3) := by decide +kernel
theorem dX4_drawn_12 : decode cX4_drawn 12 = .ok (.ifCond .ne 10, 3) := by decide +kernel
theorem dX4_drawn_15 : decode cX4_drawn 15 = .ok (.aload_n 0, 1) := by decide +kernel
theorem dX4_drawn_16 : decode cX4_drawn 16 = .ok (.ldc 65, 2) := by decide +kernel
theorem dX4_drawn_18 : decode cX4_drawn 18 = .ok (.invokevirtual 66, 3) := by decide +kernel
theorem dX4_drawn_21 : decode cX4_drawn 21 = .ok (.ireturn, 1) := by decide +kernel
theorem dX4_drawn_22 : decode cX4_drawn 22 = .ok (.iconst 0, 1) := by decide +kernel
theorem dX4_drawn_23 : decode cX4_drawn 23 = .ok (.istore_n 3, 1) := by decide +kernel
theorem dX4_drawn_24 : decode cX4_drawn 24 = .ok (.iload_n 3, 1) := by decide +kernel
theorem dX4_drawn_25 : decode cX4_drawn 25 = .ok (.bipush 8, 2) := by decide +kernel
theorem dX4_drawn_27 : decode cX4_drawn 27 = .ok (.if_icmp .ge 59, 3) := by decide +kernel
theorem dX4_drawn_30 : decode cX4_drawn 30 = .ok (.aload_n 0, 1) := by decide +kernel
theorem dX4_drawn_31 : decode cX4_drawn 31 = .ok (.getfield 12, 3) := by decide +kernel
theorem dX4_drawn_34 : decode cX4_drawn 34 = .ok (.getfield 70, 3) := by decide +kernel
theorem dX4_drawn_37 : decode cX4_drawn 37 = .ok (.iload_n 3, 1) := by decide +kernel
theorem dX4_drawn_38 : decode cX4_drawn 38 = .ok (.iaload, 1) := by decide +kernel
theorem dX4_drawn_39 : decode cX4_drawn 39 = .ok (.iconst 1, 1) := by decide +kernel
theorem dX4_drawn_40 : decode cX4_drawn 40 = .ok (.iadd, 1) := by decide +kernel
theorem dX4_drawn_41 : decode cX4_drawn 41 = .ok (.istore 4, 2) := by decide +kernel
theorem dX4_drawn_43 : decode cX4_drawn 43 = .ok (.aload_n 0, 1) := by decide +kernel
theorem dX4_drawn_44 : decode cX4_drawn 44 = .ok (.getfield 12, 3) := by decide +kernel
theorem dX4_drawn_47 : decode cX4_drawn 47 = .ok (.invokevirtual 135, 3) := by decide +kernel
theorem dX4_drawn_50 : decode cX4_drawn 50 = .ok (.istore 5, 2) := by decide +kernel
theorem dX4_drawn_52 : decode cX4_drawn 52 = .ok (.aload_n 0, 1) := by decide +kernel
theorem dX4_drawn_53 : decode cX4_drawn 53 = .ok (.getfield 12, 3) := by decide +kernel
theorem dX4_drawn_56 : decode cX4_drawn 56 = .ok (.getfield 98, 3) := by decide +kernel
theorem dX4_drawn_59 : decode cX4_drawn 59 = .ok (.iload_n 1, 1) := by decide +kernel
theorem dX4_drawn_60 : decode cX4_drawn 60 = .ok (.iload_n 3, 1) := by decide +kernel
theorem dX4_drawn_61 : decode cX4_drawn 61 = .ok (.iload_n 2, 1) := by decide +kernel
theorem dX4_drawn_62 : decode cX4_drawn 62 = .ok (.invokestatic 94, 3) := by decide +kernel
theorem dX4_drawn_65 : decode cX4_drawn 65 = .ok (.iload 4, 2) := by decide +kernel
theorem dX4_drawn_67 : decode cX4_drawn 67 = .ok (.ifCond .le 11, 3) := by decide +kernel
theorem dX4_drawn_70 : decode cX4_drawn 70 = .ok (.iload 5, 2) := by decide +kernel
theorem dX4_drawn_72 : decode cX4_drawn 72 = .ok (.iload 4, 2) := by decide +kernel
theorem dX4_drawn_74 : decode cX4_drawn 74 = .ok (.irem, 1) := by decide +kernel
theorem dX4_drawn_75 : decode cX4_drawn 75 = .ok (.goto 4, 3) := by decide +kernel
theorem dX4_drawn_78 : decode cX4_drawn 78 = .ok (.iconst 0, 1) := by decide +kernel
theorem dX4_drawn_79 : decode cX4_drawn 79 = .ok (.iastore, 1) := by decide +kernel
theorem dX4_drawn_80 : decode cX4_drawn 80 = .ok (.iinc 3 1, 3) := by decide +kernel
theorem dX4_drawn_83 : decode cX4_drawn 83 = .ok (.goto (-59), 3) := by decide +kernel
theorem dX4_drawn_86 : decode cX4_drawn 86 = .ok (.aload_n 0, 1) := by decide +kernel
theorem dX4_drawn_87 : decode cX4_drawn 87 = .ok (.getfield 12, 3) := by decide +kernel
theorem dX4_drawn_90 : decode cX4_drawn 90 = .ok (.iload_n 1, 1) := by decide +kernel
theorem dX4_drawn_91 : decode cX4_drawn 91 = .ok (.invokevirtual 104, 3) := by decide +kernel
theorem dX4_drawn_94 : decode cX4_drawn 94 = .ok (.ireturn, 1) := by decide +kernel
theorem dX4_drop_0 : decode cX4_drop 0 = .ok (.aload_n 0, 1) := by decide +kernel
theorem dX4_drop_1 : decode cX4_drop 1 = .ok (.getfield 12, 3) := by decide +kernel
theorem dX4_drop_4 : decode cX4_drop 4 = .ok (.getfield 80, 3) := by decide +kernel
theorem dX4_drop_7 : decode cX4_drop 7 = .ok (.ifCond .gt 10, 3) := by decide +kernel
theorem dX4_drop_10 : decode cX4_drop 10 = .ok (.aload_n 0, 1) := by decide +kernel
theorem dX4_drop_11 : decode cX4_drop 11 = .ok (.ldc 111, 2) := by decide +kernel
theorem dX4_drop_13 : decode cX4_drop 13 = .ok (.invokevirtual 66, 3) := by decide +kernel
theorem dX4_drop_16 : decode cX4_drop 16 = .ok (.ireturn, 1) := by decide +kernel
theorem dX4_drop_17 : decode cX4_drop 17 = .ok (.aload_n 0, 1) := by decide +kernel
theorem dX4_drop_18 : decode cX4_drop 18 = .ok (.getfield 12, 3) := by decide +kernel
theorem dX4_drop_21 : decode cX4_drop 21 = .ok (.dup, 1) := by decide +kernel
theorem dX4_drop_22 : decode cX4_drop 22 = .ok (.getfield 80, 3) := by decide +kernel
theorem dX4_drop_25 : decode cX4_drop 25 = .ok (.iconst 1, 1) := by decide +kernel
theorem dX4_drop_26 : decode cX4_drop 26 = .ok (.isub, 1) := by decide +kernel
theorem dX4_drop_27 : decode cX4_drop 27 = .ok (.putfield 80, 3) := by decide +kernel
theorem dX4_drop_30 : decode cX4_drop 30 = .ok (.aload_n 0, 1) := by decide +kernel
theorem dX4_drop_31 : decode cX4_drop 31 = .ok (.getfield 12, 3) := by decide +kernel
theorem dX4_drop_34 : decode cX4_drop 34 = .ok (.getfield 80, 3) := by decide +kernel
theorem dX4_drop_37 : decode cX4_drop 37 = .ok (.ireturn, 1) := by decide +kernel
theorem dX4_curve_0 : decode cX4_curve 0 = .ok (.iload_n 1, 1) := by decide +kernel
theorem dX4_curve_1 : decode cX4_curve 1 = .ok (.invokestatic 138, 3) := by decide +kernel
theorem dX4_curve_4 : decode cX4_curve 4 = .ok (.ifCond .eq 10, 3) := by decide +kernel
theorem dX4_curve_7 : decode cX4_curve 7 = .ok (.iload_n 2, 1) := by decide +kernel
theorem dX4_curve_8 : decode cX4_curve 8 = .ok (.invokestatic 141, 3) := by decide +kernel
theorem dX4_curve_11 : decode cX4_curve 11 = .ok (.ifCond .ne 10, 3) := by decide +kernel
theorem dX4_curve_14 : decode cX4_curve 14 = .ok (.aload_n 0, 1) := by decide +kernel
theorem dX4_curve_15 : decode cX4_curve 15 = .ok (.ldc 65, 2) := by decide +kernel
theorem dX4_curve_17 : decode cX4_curve 17 = .ok (.invokevirtual 66, 3) := by decide +kernel
theorem dX4_curve_20 : decode cX4_curve 20 = .ok (.ireturn, 1) := by decide +kernel
theorem dX4_curve_21 : decode cX4_curve 21 = .ok (.aload_n 0, 1) := by decide +kernel
theorem dX4_curve_22 : decode cX4_curve 22 = .ok (.getfield 12, 3) := by decide +kernel
theorem dX4_curve_25 : decode cX4_curve 25 = .ok (.getfield 144, 3) := by decide +kernel
theorem dX4_curve_28 : decode cX4_curve 28 = .ok (.bipush 6, 2) := by decide +kernel
theorem dX4_curve_30 : decode cX4_curve 30 = .ok (.if_icmp .lt 10, 3) := by decide +kernel
theorem dX4_curve_33 : decode cX4_curve 33 = .ok (.aload_n 0, 1) := by decide +kernel
theorem dX4_curve_34 : decode cX4_curve 34 = .ok (.ldc 84, 2) := by decide +kernel
theorem dX4_curve_36 : decode cX4_curve 36 = .ok (.invokevirtual 66, 3) := by decide +kernel
theorem dX4_curve_39 : decode cX4_curve 39 = .ok (.ireturn, 1) := by decide +kernel
theorem dX4_curve_40 : decode cX4_curve 40 = .ok (.aload_n 0, 1) := by decide +kernel
theorem dX4_curve_41 : decode cX4_curve 41 = .ok (.getfield 12, 3) := by decide +kernel
theorem dX4_curve_44 : decode cX4_curve 44 = .ok (.iload_n 1, 1) := by decide +kernel
theorem dX4_curve_45 : decode cX4_curve 45 = .ok (.iload_n 2, 1) := by decide +kernel
theorem dX4_curve_46 : decode cX4_curve 46 = .ok (.invokevirtual 147, 3) := by decide +kernel
theorem dX4_curve_49 : decode cX4_curve 49 = .ok (.ireturn, 1) := by decide +kernel
theorem dX4_curveOf_0 : decode cX4_curveOf 0 = .ok (.aload_n 0, 1) := by decide +kernel
theorem dX4_curveOf_1 : decode cX4_curveOf 1 = .ok (.iload_n 1, 1) := by decide +kernel
theorem dX4_curveOf_2 : decode cX4_curveOf 2 = .ok (.invokevirtual 150, 3) := by decide +kernel
theorem dX4_curveOf_5 : decode cX4_curveOf 5 = .ok (.ifCond .eq 12, 3) := by decide +kernel
theorem dX4_curveOf_8 : decode cX4_curveOf 8 = .ok (.iload_n 2, 1) := by decide +kernel
theorem dX4_curveOf_9 : decode cX4_curveOf 9 = .ok (.iconst 0, 1) := by decide +kernel
theorem dX4_curveOf_10 : decode cX4_curveOf 10 = .ok (.iconst 1, 1) := by decide +kernel
theorem dX4_curveOf_11 : decode cX4_curveOf 11 = .ok (.invokestatic 61, 3) := by decide +kernel
theorem dX4_curveOf_14 : decode cX4_curveOf 14 = .ok (.ifCond .ne 10, 3) := by decide +kernel
theorem dX4_curveOf_17 : decode cX4_curveOf 17 = .ok (.aload_n 0, 1) := by decide +kernel
theorem dX4_curveOf_18 : decode cX4_curveOf 18 = .ok (.ldc 65, 2) := by decide +kernel
theorem dX4_curveOf_20 : decode cX4_curveOf 20 = .ok (.invokevirtual 66, 3) := by decide +kernel
theorem dX4_curveOf_23 : decode cX4_curveOf 23 = .ok (.ireturn, 1) := by decide +kernel
theorem dX4_curveOf_24 : decode cX4_curveOf 24 = .ok (.iload_n 2, 1) := by decide +kernel
theorem dX4_curveOf_25 : decode cX4_curveOf 25 = .ok (.ifCond .ne 15, 3) := by decide +kernel
theorem dX4_curveOf_28 : decode cX4_curveOf 28 = .ok (.aload_n 0, 1) := by decide +kernel
theorem dX4_curveOf_29 : decode cX4_curveOf 29 = .ok (.getfield 12, 3) := by decide +kernel
theorem dX4_curveOf_32 : decode cX4_curveOf 32 = .ok (.getfield 153, 3) := by decide +kernel
theorem dX4_curveOf_35 : decode cX4_curveOf 35 = .ok (.iload_n 1, 1) := by decide +kernel
theorem dX4_curveOf_36 : decode cX4_curveOf 36 = .ok (.iaload, 1) := by decide +kernel
theorem dX4_curveOf_37 : decode cX4_curveOf 37 = .ok (.goto 12, 3) := by decide +kernel
theorem dX4_curveOf_40 : decode cX4_curveOf 40 = .ok (.aload_n 0, 1) := by decide +kernel
theorem dX4_curveOf_41 : decode cX4_curveOf 41 = .ok (.getfield 12, 3) := by decide +kernel
theorem dX4_curveOf_44 : decode cX4_curveOf 44 = .ok (.getfield 156, 3) := by decide +kernel
theorem dX4_curveOf_47 : decode cX4_curveOf 47 = .ok (.iload_n 1, 1) := by decide +kernel
theorem dX4_curveOf_48 : decode cX4_curveOf 48 = .ok (.iaload, 1) := by decide +kernel
theorem dX4_curveOf_49 : decode cX4_curveOf 49 = .ok (.ireturn, 1) := by decide +kernel
theorem dX4_turn_0 : decode cX4_turn 0 = .ok (.aload_n 0, 1) := by decide +kernel
theorem dX4_turn_1 : decode cX4_turn 1 = .ok (.iload_n 1, 1) := by decide +kernel
theorem dX4_turn_2 : decode cX4_turn 2 = .ok (.invokevirtual 150, 3) := by decide +kernel
theorem dX4_turn_5 : decode cX4_turn 5 = .ok (.ifCond .eq 10, 3) := by decide +kernel
theorem dX4_turn_8 : decode cX4_turn 8 = .ok (.iload_n 2, 1) := by decide +kernel
theorem dX4_turn_9 : decode cX4_turn 9 = .ok (.invokestatic 138, 3) := by decide +kernel
theorem dX4_turn_12 : decode cX4_turn 12 = .ok (.ifCond .ne 10, 3) := by decide +kernel
theorem dX4_turn_15 : decode cX4_turn 15 = .ok (.aload_n 0, 1) := by decide +kernel
theorem dX4_turn_16 : decode cX4_turn 16 = .ok (.ldc 65, 2) := by decide +kernel
theorem dX4_turn_18 : decode cX4_turn 18 = .ok (.invokevirtual 66, 3) := by decide +kernel
theorem dX4_turn_21 : decode cX4_turn 21 = .ok (.ireturn, 1) := by decide +kernel
theorem dX4_turn_22 : decode cX4_turn 22 = .ok (.aload_n 0, 1) := by decide +kernel
theorem dX4_turn_23 : decode cX4_turn 23 = .ok (.getfield 12, 3) := by decide +kernel
theorem dX4_turn_26 : decode cX4_turn 26 = .ok (.getfield 153, 3) := by decide +kernel
theorem dX4_turn_29 : decode cX4_turn 29 = .ok (.iload_n 1, 1) := by decide +kernel
theorem dX4_turn_30 : decode cX4_turn 30 = .ok (.iaload, 1) := by decide +kernel
theorem dX4_turn_31 : decode cX4_turn 31 = .ok (.istore_n 3, 1) := by decide +kernel
theorem dX4_turn_32 : decode cX4_turn 32 = .ok (.aload_n 0, 1) := by decide +kernel
theorem dX4_turn_33 : decode cX4_turn 33 = .ok (.getfield 12, 3) := by decide +kernel
theorem dX4_turn_36 : decode cX4_turn 36 = .ok (.getfield 153, 3) := by decide +kernel
theorem dX4_turn_39 : decode cX4_turn 39 = .ok (.iload_n 1, 1) := by decide +kernel
theorem dX4_turn_40 : decode cX4_turn 40 = .ok (.iload_n 2, 1) := by decide +kernel
theorem dX4_turn_41 : decode cX4_turn 41 = .ok (.iastore, 1) := by decide +kernel
theorem dX4_turn_42 : decode cX4_turn 42 = .ok (.iload_n 3, 1) := by decide +kernel
theorem dX4_turn_43 : decode cX4_turn 43 = .ok (.ireturn, 1) := by decide +kernel
theorem dX4_by_0 : decode cX4_by 0 = .ok (.aload_n 0, 1) := by decide +kernel
theorem dX4_by_1 : decode cX4_by 1 = .ok (.iload_n 1, 1) := by decide +kernel
theorem dX4_by_2 : decode cX4_by 2 = .ok (.invokevirtual 150, 3) := by decide +kernel
theorem dX4_by_5 : decode cX4_by 5 = .ok (.ifCond .eq 10, 3) := by decide +kernel
theorem dX4_by_8 : decode cX4_by 8 = .ok (.iload_n 2, 1) := by decide +kernel
theorem dX4_by_9 : decode cX4_by 9 = .ok (.invokestatic 141, 3) := by decide +kernel
theorem dX4_by_12 : decode cX4_by 12 = .ok (.ifCond .ne 10, 3) := by decide +kernel
theorem dX4_by_15 : decode cX4_by 15 = .ok (.aload_n 0, 1) := by decide +kernel
theorem dX4_by_16 : decode cX4_by 16 = .ok (.ldc 65, 2) := by decide +kernel
theorem dX4_by_18 : decode cX4_by 18 = .ok (.invokevirtual 66, 3) := by decide +kernel
theorem dX4_by_21 : decode cX4_by 21 = .ok (.ireturn, 1) := by decide +kernel
theorem dX4_by_22 : decode cX4_by 22 = .ok (.aload_n 0, 1) := by decide +kernel
theorem dX4_by_23 : decode cX4_by 23 = .ok (.getfield 12, 3) := by decide +kernel
theorem dX4_by_26 : decode cX4_by 26 = .ok (.getfield 156, 3) := by decide +kernel
theorem dX4_by_29 : decode cX4_by 29 = .ok (.iload_n 1, 1) := by decide +kernel
theorem dX4_by_30 : decode cX4_by 30 = .ok (.iaload, 1) := by decide +kernel
theorem dX4_by_31 : decode cX4_by 31 = .ok (.istore_n 3, 1) := by decide +kernel
theorem dX4_by_32 : decode cX4_by 32 = .ok (.aload_n 0, 1) := by decide +kernel
theorem dX4_by_33 : decode cX4_by 33 = .ok (.getfield 12, 3) := by decide +kernel
theorem dX4_by_36 : decode cX4_by 36 = .ok (.getfield 156, 3) := by decide +kernel
theorem dX4_by_39 : decode cX4_by 39 = .ok (.iload_n 1, 1) := by decide +kernel
theorem dX4_by_40 : decode cX4_by 40 = .ok (.iload_n 2, 1) := by decide +kernel
theorem dX4_by_41 : decode cX4_by 41 = .ok (.iastore, 1) := by decide +kernel
theorem dX4_by_42 : decode cX4_by 42 = .ok (.iload_n 3, 1) := by decide +kernel
theorem dX4_by_43 : decode cX4_by 43 = .ok (.ireturn, 1) := by decide +kernel
theorem dX4_mark_0 : decode cX4_mark 0 = .ok (.aload_n 0, 1) := by decide +kernel
theorem dX4_mark_1 : decode cX4_mark 1 = .ok (.iload_n 1, 1) := by decide +kernel
theorem dX4_mark_2 : decode cX4_mark 2 = .ok (.invokevirtual 150, 3) := by decide +kernel
theorem dX4_mark_5 : decode cX4_mark 5 = .ok (.ifCond .eq 11, 3) := by decide +kernel
theorem dX4_mark_8 : decode cX4_mark 8 = .ok (.aload_n 0, 1) := by decide +kernel
theorem dX4_mark_9 : decode cX4_mark 9 = .ok (.iload_n 2, 1) := by decide +kernel
theorem dX4_mark_10 : decode cX4_mark 10 = .ok (.invokevirtual 88, 3) := by decide +kernel
theorem dX4_mark_13 : decode cX4_mark 13 = .ok (.ifCond .ne 10, 3) := by decide +kernel
theorem dX4_mark_16 : decode cX4_mark 16 = .ok (.aload_n 0, 1) := by decide +kernel
theorem dX4_mark_17 : decode cX4_mark 17 = .ok (.ldc 65, 2) := by decide +kernel
theorem dX4_mark_19 : decode cX4_mark 19 = .ok (.invokevirtual 66, 3) := by decide +kernel
theorem dX4_mark_22 : decode cX4_mark 22 = .ok (.ireturn, 1) := by decide +kernel
theorem dX4_mark_23 : decode cX4_mark 23 = .ok (.aload_n 0, 1) := by decide +kernel
theorem dX4_mark_24 : decode cX4_mark 24 = .ok (.getfield 25, 3) := by decide +kernel
theorem dX4_mark_27 : decode cX4_mark 27 = .ok (.aload_n 0, 1) := by decide +kernel
theorem dX4_mark_28 : decode cX4_mark 28 = .ok (.getfield 12, 3) := by decide +kernel
theorem dX4_mark_31 : decode cX4_mark 31 = .ok (.invokevirtual 112, 3) := by decide +kernel
theorem dX4_mark_34 : decode cX4_mark 34 = .ok (.aload_n 0, 1) := by decide +kernel
theorem dX4_mark_35 : decode cX4_mark 35 = .ok (.getfield 25, 3) := by decide +kernel
theorem dX4_mark_38 : decode cX4_mark 38 = .ok (.aload_n 0, 1) := by decide +kernel
theorem dX4_mark_39 : decode cX4_mark 39 = .ok (.getfield 12, 3) := by decide +kernel
theorem dX4_mark_42 : decode cX4_mark 42 = .ok (.getfield 153, 3) := by decide +kernel
theorem dX4_mark_45 : decode cX4_mark 45 = .ok (.iload_n 1, 1) := by decide +kernel
theorem dX4_mark_46 : decode cX4_mark 46 = .ok (.iaload, 1) := by decide +kernel
theorem dX4_mark_47 : decode cX4_mark 47 = .ok (.aload_n 0, 1) := by decide +kernel
theorem dX4_mark_48 : decode cX4_mark 48 = .ok (.getfield 12, 3) := by decide +kernel
theorem dX4_mark_51 : decode cX4_mark 51 = .ok (.getfield 156, 3) := by decide +kernel
theorem dX4_mark_54 : decode cX4_mark 54 = .ok (.iload_n 1, 1) := by decide +kernel
theorem dX4_mark_55 : decode cX4_mark 55 = .ok (.iaload, 1) := by decide +kernel
theorem dX4_mark_56 : decode cX4_mark 56 = .ok (.iload_n 2, 1) := by decide +kernel
theorem dX4_mark_57 : decode cX4_mark 57 = .ok (.invokevirtual 159, 3) := by decide +kernel
theorem dX4_mark_60 : decode cX4_mark 60 = .ok (.ireturn, 1) := by decide +kernel
