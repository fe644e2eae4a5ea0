theorem dX0_init_0 : decode cX0_init 0 = .ok (.aload_n 0, 1) := by decide +kernel
theorem dX0_init_1 : decode cX0_init 1 = .ok (.invokespecial 3, 3) := by decide +kernel
theorem dX0_init_4 : decode cX0_init 4 = .ok (.aload_n 0, 1) := by decide +kernel
theorem dX0_init_5 : decode cX0_init 5 = .ok (.bipush 10, 2) := by decide +kernel
theorem dX0_init_7 : decode cX0_init 7 = .ok (.newarray .int, 2) := by decide +kernel
theorem dX0_init_9 : decode cX0_init 9 = .ok (.putfield 9, 3) := by decide +kernel
theorem dX0_init_12 : decode cX0_init 12 = .ok (.aload_n 0, 1) := by decide +kernel
theorem dX0_init_13 : decode cX0_init 13 = .ok (.iconst 0, 1) := by decide +kernel
theorem dX0_init_14 : decode cX0_init 14 = .ok (.putfield 15, 3) := by decide +kernel
theorem dX0_init_17 : decode cX0_init 17 = .ok (.aload_n 0, 1) := by decide +kernel
theorem dX0_init_18 : decode cX0_init 18 = .ok (.iconst 0, 1) := by decide +kernel
theorem dX0_init_19 : decode cX0_init 19 = .ok (.putfield 19, 3) := by decide +kernel
theorem dX0_init_22 : decode cX0_init 22 = .ok (.aload_n 0, 1) := by decide +kernel
theorem dX0_init_23 : decode cX0_init 23 = .ok (.iconst 1, 1) := by decide +kernel
theorem dX0_init_24 : decode cX0_init 24 = .ok (.putfield 22, 3) := by decide +kernel
theorem dX0_init_27 : decode cX0_init 27 = .ok (.aload_n 0, 1) := by decide +kernel
theorem dX0_init_28 : decode cX0_init 28 = .ok (.iconst 3, 1) := by decide +kernel
theorem dX0_init_29 : decode cX0_init 29 = .ok (.putfield 25, 3) := by decide +kernel
theorem dX0_init_32 : decode cX0_init 32 = .ok (.aload_n 0, 1) := by decide +kernel
theorem dX0_init_33 : decode cX0_init 33 = .ok (.iconst 0, 1) := by decide +kernel
theorem dX0_init_34 : decode cX0_init 34 = .ok (.putfield 28, 3) := by decide +kernel
theorem dX0_init_37 : decode cX0_init 37 = .ok (.aload_n 0, 1) := by decide +kernel
theorem dX0_init_38 : decode cX0_init 38 = .ok (.iconst 0, 1) := by decide +kernel
theorem dX0_init_39 : decode cX0_init 39 = .ok (.putfield 31, 3) := by decide +kernel
theorem dX0_init_42 : decode cX0_init 42 = .ok (.return_, 1) := by decide +kernel
theorem dX0_copyFrom_0 : decode cX0_copyFrom 0 = .ok (.iconst 0, 1) := by decide +kernel
theorem dX0_copyFrom_1 : decode cX0_copyFrom 1 = .ok (.istore_n 2, 1) := by decide +kernel
theorem dX0_copyFrom_2 : decode cX0_copyFrom 2 = .ok (.iload_n 2, 1) := by decide +kernel
theorem dX0_copyFrom_3 : decode cX0_copyFrom 3 = .ok (.bipush 10, 2) := by decide +kernel
theorem dX0_copyFrom_5 : decode cX0_copyFrom 5 = .ok (.if_icmp .ge 21, 3) := by decide +kernel
theorem dX0_copyFrom_8 : decode cX0_copyFrom 8 = .ok (.aload_n 0, 1) := by decide +kernel
theorem dX0_copyFrom_9 : decode cX0_copyFrom 9 = .ok (.getfield 9, 3) := by decide +kernel
theorem dX0_copyFrom_12 : decode cX0_copyFrom 12 = .ok (.iload_n 2, 1) := by decide +kernel
theorem dX0_copyFrom_13 : decode cX0_copyFrom 13 = .ok (.aload_n 1, 1) := by decide +kernel
theorem dX0_copyFrom_14 : decode cX0_copyFrom 14 = .ok (.getfield 9, 3) := by decide +kernel
theorem dX0_copyFrom_17 : decode cX0_copyFrom 17 = .ok (.iload_n 2, 1) := by decide +kernel
theorem dX0_copyFrom_18 : decode cX0_copyFrom 18 = .ok (.iaload, 1) := by decide +kernel
theorem dX0_copyFrom_19 : decode cX0_copyFrom 19 = .ok (.iastore, 1) := by decide +kernel
theorem dX0_copyFrom_20 : decode cX0_copyFrom 20 = .ok (.iinc 2 1, 3) := by decide +kernel
theorem dX0_copyFrom_23 : decode cX0_copyFrom 23 = .ok (.goto (-21), 3) := by decide +kernel
theorem dX0_copyFrom_26 : decode cX0_copyFrom 26 = .ok (.aload_n 0, 1) := by decide +kernel
theorem dX0_copyFrom_27 : decode cX0_copyFrom 27 = .ok (.aload_n 1, 1) := by decide +kernel
theorem dX0_copyFrom_28 : decode cX0_copyFrom 28 = .ok (.getfield 15, 3) := by decide +kernel
theorem dX0_copyFrom_31 : decode cX0_copyFrom 31 = .ok (.putfield 15, 3) := by decide +kernel
theorem dX0_copyFrom_34 : decode cX0_copyFrom 34 = .ok (.aload_n 0, 1) := by decide +kernel
theorem dX0_copyFrom_35 : decode cX0_copyFrom 35 = .ok (.aload_n 1, 1) := by decide +kernel
theorem dX0_copyFrom_36 : decode cX0_copyFrom 36 = .ok (.getfield 19, 3) := by decide +kernel
theorem dX0_copyFrom_39 : decode cX0_copyFrom 39 = .ok (.putfield 19, 3) := by decide +kernel
theorem dX0_copyFrom_42 : decode cX0_copyFrom 42 = .ok (.aload_n 0, 1) := by decide +kernel
theorem dX0_copyFrom_43 : decode cX0_copyFrom 43 = .ok (.aload_n 1, 1) := by decide +kernel
theorem dX0_copyFrom_44 : decode cX0_copyFrom 44 = .ok (.getfield 22, 3) := by decide +kernel
theorem dX0_copyFrom_47 : decode cX0_copyFrom 47 = .ok (.putfield 22, 3) := by decide +kernel
theorem dX0_copyFrom_50 : decode cX0_copyFrom 50 = .ok (.aload_n 0, 1) := by decide +kernel
theorem dX0_copyFrom_51 : decode cX0_copyFrom 51 = .ok (.aload_n 1, 1) := by decide +kernel
theorem dX0_copyFrom_52 : decode cX0_copyFrom 52 = .ok (.getfield 25, 3) := by decide +kernel
theorem dX0_copyFrom_55 : decode cX0_copyFrom 55 = .ok (.putfield 25, 3) := by decide +kernel
theorem dX0_copyFrom_58 : decode cX0_copyFrom 58 = .ok (.aload_n 0, 1) := by decide +kernel
theorem dX0_copyFrom_59 : decode cX0_copyFrom 59 = .ok (.aload_n 1, 1) := by decide +kernel
theorem dX0_copyFrom_60 : decode cX0_copyFrom 60 = .ok (.getfield 28, 3) := by decide +kernel
theorem dX0_copyFrom_63 : decode cX0_copyFrom 63 = .ok (.putfield 28, 3) := by decide +kernel
theorem dX0_copyFrom_66 : decode cX0_copyFrom 66 = .ok (.aload_n 0, 1) := by decide +kernel
theorem dX0_copyFrom_67 : decode cX0_copyFrom 67 = .ok (.aload_n 1, 1) := by decide +kernel
theorem dX0_copyFrom_68 : decode cX0_copyFrom 68 = .ok (.getfield 31, 3) := by decide +kernel
theorem dX0_copyFrom_71 : decode cX0_copyFrom 71 = .ok (.putfield 31, 3) := by decide +kernel
theorem dX0_copyFrom_74 : decode cX0_copyFrom 74 = .ok (.return_, 1) := by decide +kernel
theorem dX0_isKept_0 : decode cX0_isKept 0 = .ok (.aload_n 0, 1) := by decide +kernel
theorem dX0_isKept_1 : decode cX0_isKept 1 = .ok (.getfield 19, 3) := by decide +kernel
theorem dX0_isKept_4 : decode cX0_isKept 4 = .ok (.iload_n 1, 1) := by decide +kernel
theorem dX0_isKept_5 : decode cX0_isKept 5 = .ok (.ishr, 1) := by decide +kernel
theorem dX0_isKept_6 : decode cX0_isKept 6 = .ok (.iconst 1, 1) := by decide +kernel
theorem dX0_isKept_7 : decode cX0_isKept 7 = .ok (.iand, 1) := by decide +kernel
theorem dX0_isKept_8 : decode cX0_isKept 8 = .ok (.ifCond .eq 7, 3) := by decide +kernel
theorem dX0_isKept_11 : decode cX0_isKept 11 = .ok (.iconst 1, 1) := by decide +kernel
theorem dX0_isKept_12 : decode cX0_isKept 12 = .ok (.goto 4, 3) := by decide +kernel
theorem dX0_isKept_15 : decode cX0_isKept 15 = .ok (.iconst 0, 1) := by decide +kernel
theorem dX0_isKept_16 : decode cX0_isKept 16 = .ok (.ireturn, 1) := by decide +kernel
theorem dX0_bears_0 : decode cX0_bears 0 = .ok (.iload_n 1, 1) := by decide +kernel
theorem dX0_bears_1 : decode cX0_bears 1 = .ok (.aload_n 0, 1) := by decide +kernel
theorem dX0_bears_2 : decode cX0_bears 2 = .ok (.getfield 28, 3) := by decide +kernel
theorem dX0_bears_5 : decode cX0_bears 5 = .ok (.if_icmp .ge 7, 3) := by decide +kernel
theorem dX0_bears_8 : decode cX0_bears 8 = .ok (.iload_n 1, 1) := by decide +kernel
theorem dX0_bears_9 : decode cX0_bears 9 = .ok (.goto 7, 3) := by decide +kernel
theorem dX0_bears_12 : decode cX0_bears 12 = .ok (.aload_n 0, 1) := by decide +kernel
theorem dX0_bears_13 : decode cX0_bears 13 = .ok (.getfield 28, 3) := by decide +kernel
theorem dX0_bears_16 : decode cX0_bears 16 = .ok (.ireturn, 1) := by decide +kernel
theorem dX0_rungAfter_0 : decode cX0_rungAfter 0 = .ok (.iload_n 2, 1) := by decide +kernel
theorem dX0_rungAfter_1 : decode cX0_rungAfter 1 = .ok (.ifCond .ne 19, 3) := by decide +kernel
theorem dX0_rungAfter_4 : decode cX0_rungAfter 4 = .ok (.iload_n 1, 1) := by decide +kernel
theorem dX0_rungAfter_5 : decode cX0_rungAfter 5 = .ok (.aload_n 0, 1) := by decide +kernel
theorem dX0_rungAfter_6 : decode cX0_rungAfter 6 = .ok (.getfield 22, 3) := by decide +kernel
theorem dX0_rungAfter_9 : decode cX0_rungAfter 9 = .ok (.iadd, 1) := by decide +kernel
theorem dX0_rungAfter_10 : decode cX0_rungAfter 10 = .ok (.aload_n 0, 1) := by decide +kernel
theorem dX0_rungAfter_11 : decode cX0_rungAfter 11 = .ok (.getfield 15, 3) := by decide +kernel
theorem dX0_rungAfter_14 : decode cX0_rungAfter 14 = .ok (.iconst 1, 1) := by decide +kernel
theorem dX0_rungAfter_15 : decode cX0_rungAfter 15 = .ok (.isub, 1) := by decide +kernel
theorem dX0_rungAfter_16 : decode cX0_rungAfter 16 = .ok (.invokestatic 34, 3) := by decide +kernel
theorem dX0_rungAfter_19 : decode cX0_rungAfter 19 = .ok (.ireturn, 1) := by decide +kernel
theorem dX0_rungAfter_20 : decode cX0_rungAfter 20 = .ok (.iload_n 1, 1) := by decide +kernel
theorem dX0_rungAfter_21 : decode cX0_rungAfter 21 = .ok (.aload_n 0, 1) := by decide +kernel
theorem dX0_rungAfter_22 : decode cX0_rungAfter 22 = .ok (.getfield 25, 3) := by decide +kernel
theorem dX0_rungAfter_25 : decode cX0_rungAfter 25 = .ok (.aload_n 0, 1) := by decide +kernel
theorem dX0_rungAfter_26 : decode cX0_rungAfter 26 = .ok (.iload_n 1, 1) := by decide +kernel
theorem dX0_rungAfter_27 : decode cX0_rungAfter 27 = .ok (.invokevirtual 40, 3) := by decide +kernel
theorem dX0_rungAfter_30 : decode cX0_rungAfter 30 = .ok (.ifCond .eq 9, 3) := by decide +kernel
theorem dX0_rungAfter_33 : decode cX0_rungAfter 33 = .ok (.iload_n 2, 1) := by decide +kernel
theorem dX0_rungAfter_34 : decode cX0_rungAfter 34 = .ok (.iconst 1, 1) := by decide +kernel
theorem dX0_rungAfter_35 : decode cX0_rungAfter 35 = .ok (.isub, 1) := by decide +kernel
theorem dX0_rungAfter_36 : decode cX0_rungAfter 36 = .ok (.goto 4, 3) := by decide +kernel
theorem dX0_rungAfter_39 : decode cX0_rungAfter 39 = .ok (.iload_n 2, 1) := by decide +kernel
theorem dX0_rungAfter_40 : decode cX0_rungAfter 40 = .ok (.imul, 1) := by decide +kernel
theorem dX0_rungAfter_41 : decode cX0_rungAfter 41 = .ok (.isub, 1) := by decide +kernel
theorem dX0_rungAfter_42 : decode cX0_rungAfter 42 = .ok (.iconst 0, 1) := by decide +kernel
theorem dX0_rungAfter_43 : decode cX0_rungAfter 43 = .ok (.invokestatic 44, 3) := by decide +kernel
theorem dX0_rungAfter_46 : decode cX0_rungAfter 46 = .ok (.ireturn, 1) := by decide +kernel
theorem dX0_readFrom_0 : decode cX0_readFrom 0 = .ok (.aload_n 0, 1) := by decide +kernel
theorem dX0_readFrom_1 : decode cX0_readFrom 1 = .ok (.iconst 0, 1) := by decide +kernel
theorem dX0_readFrom_2 : decode cX0_readFrom 2 = .ok (.putfield 15, 3) := by decide +kernel
theorem dX0_readFrom_5 : decode cX0_readFrom 5 = .ok (.aload_n 0, 1) := by decide +kernel
theorem dX0_readFrom_6 : decode cX0_readFrom 6 = .ok (.iconst 0, 1) := by decide +kernel
theorem dX0_readFrom_7 : decode cX0_readFrom 7 = .ok (.putfield 19, 3) := by decide +kernel
theorem dX0_readFrom_10 : decode cX0_readFrom 10 = .ok (.aload_n 0, 1) := by decide +kernel
theorem dX0_readFrom_11 : decode cX0_readFrom 11 = .ok (.iconst 1, 1) := by decide +kernel
theorem dX0_readFrom_12 : decode cX0_readFrom 12 = .ok (.putfield 22, 3) := by decide +kernel
theorem dX0_readFrom_15 : decode cX0_readFrom 15 = .ok (.aload_n 0, 1) := by decide +kernel
theorem dX0_readFrom_16 : decode cX0_readFrom 16 = .ok (.iconst 3, 1) := by decide +kernel
theorem dX0_readFrom_17 : decode cX0_readFrom 17 = .ok (.putfield 25, 3) := by decide +kernel
theorem dX0_readFrom_20 : decode cX0_readFrom 20 = .ok (.aload_n 0, 1) := by decide +kernel
theorem dX0_readFrom_21 : decode cX0_readFrom 21 = .ok (.iconst 0, 1) := by decide +kernel
theorem dX0_readFrom_22 : decode cX0_readFrom 22 = .ok (.putfield 28, 3) := by decide +kernel
theorem dX0_readFrom_25 : decode cX0_readFrom 25 = .ok (.aload_n 0, 1) := by decide +kernel
theorem dX0_readFrom_26 : decode cX0_readFrom 26 = .ok (.iconst 0, 1) := by decide +kernel
theorem dX0_readFrom_27 : decode cX0_readFrom 27 = .ok (.putfield 31, 3) := by decide +kernel
theorem dX0_readFrom_30 : decode cX0_readFrom 30 = .ok (.iconst 0, 1) := by decide +kernel
theorem dX0_readFrom_31 : decode cX0_readFrom 31 = .ok (.istore_n 2, 1) := by decide +kernel
theorem dX0_readFrom_32 : decode cX0_readFrom 32 = .ok (.aload_n 1, 1) := by decide +kernel
theorem dX0_readFrom_33 : decode cX0_readFrom 33 = .ok (.invokevirtual 47, 3) := by decide +kernel
theorem dX0_readFrom_36 : decode cX0_readFrom 36 = .ok (.iconst 0, 1) := by decide +kernel
theorem dX0_readFrom_37 : decode cX0_readFrom 37 = .ok (.istore_n 3, 1) := by decide +kernel
theorem dX0_readFrom_38 : decode cX0_readFrom 38 = .ok (.iload_n 3, 1) := by decide +kernel
theorem dX0_readFrom_39 : decode cX0_readFrom 39 = .ok (.sipush 300, 3) := by decide +kernel
theorem dX0_readFrom_42 : decode cX0_readFrom 42 = .ok (.if_icmp .ge 40, 3) := by decide +kernel
theorem dX0_readFrom_45 : decode cX0_readFrom 45 = .ok (.aload_n 1, 1) := by decide +kernel
theorem dX0_readFrom_46 : decode cX0_readFrom 46 = .ok (.invokevirtual 52, 3) := by decide +kernel
theorem dX0_readFrom_49 : decode cX0_readFrom 49 = .ok (.ifCond .eq 33, 3) := by decide +kernel
theorem dX0_readFrom_52 : decode cX0_readFrom 52 = .ok (.aload_n 1, 1) := by decide +kernel
theorem dX0_readFrom_53 : decode cX0_readFrom 53 = .ok (.ldc 56, 2) := by decide +kernel
theorem dX0_readFrom_55 : decode cX0_readFrom 55 = .ok (.invokevirtual 58, 3) := by decide +kernel
theorem dX0_readFrom_58 : decode cX0_readFrom 58 = .ok (.ifCond .eq 11, 3) := by decide +kernel
theorem dX0_readFrom_61 : decode cX0_readFrom 61 = .ok (.aload_n 0, 1) := by decide +kernel
theorem dX0_readFrom_62 : decode cX0_readFrom 62 = .ok (.aload_n 1, 1) := by decide +kernel
theorem dX0_readFrom_63 : decode cX0_readFrom 63 = .ok (.invokevirtual 62, 3) := by decide +kernel
theorem dX0_readFrom_66 : decode cX0_readFrom 66 = .ok (.goto 10, 3) := by decide +kernel
theorem dX0_readFrom_69 : decode cX0_readFrom 69 = .ok (.aload_n 0, 1) := by decide +kernel
theorem dX0_readFrom_70 : decode cX0_readFrom 70 = .ok (.aload_n 1, 1) := by decide +kernel
theorem dX0_readFrom_71 : decode cX0_readFrom 71 = .ok (.iload_n 2, 1) := by decide +kernel
theorem dX0_readFrom_72 : decode cX0_readFrom 72 = .ok (.invokevirtual 66, 3) := by decide +kernel
theorem dX0_readFrom_75 : decode cX0_readFrom 75 = .ok (.istore_n 2, 1) := by decide +kernel
theorem dX0_readFrom_76 : decode cX0_readFrom 76 = .ok (.iinc 3 1, 3) := by decide +kernel
theorem dX0_readFrom_79 : decode cX0_readFrom 79 = .ok (.goto (-41), 3) := by decide +kernel
theorem dX0_readFrom_82 : decode cX0_readFrom 82 = .ok (.aload_n 0, 1) := by decide +kernel
theorem dX0_readFrom_83 : decode cX0_readFrom 83 = .ok (.getfield 15, 3) := by decide +kernel
theorem dX0_readFrom_86 : decode cX0_readFrom 86 = .ok (.ifCond .eq 14, 3) := by decide +kernel
theorem dX0_readFrom_89 : decode cX0_readFrom 89 = .ok (.aload_n 0, 1) := by decide +kernel
theorem dX0_readFrom_90 : decode cX0_readFrom 90 = .ok (.getfield 31, 3) := by decide +kernel
theorem dX0_readFrom_93 : decode cX0_readFrom 93 = .ok (.aload_n 0, 1) := by decide +kernel
theorem dX0_readFrom_94 : decode cX0_readFrom 94 = .ok (.getfield 15, 3) := by decide +kernel
theorem dX0_readFrom_97 : decode cX0_readFrom 97 = .ok (.if_icmp .lt 12, 3) := by decide +kernel
theorem dX0_readFrom_100 : decode cX0_readFrom 100 = .ok (.aload_n 1, 1) := by decide +kernel
theorem dX0_readFrom_101 : decode cX0_readFrom 101 = .ok (.iconst 5, 1) := by decide +kernel
theorem dX0_readFrom_102 : decode cX0_readFrom 102 = .ok (.aload_n 1, 1) := by decide +kernel
theorem dX0_readFrom_103 : decode cX0_readFrom 103 = .ok (.getfield 70, 3) := by decide +kernel
theorem dX0_readFrom_106 : decode cX0_readFrom 106 = .ok (.invokevirtual 73, 3) := by decide +kernel
theorem dX0_readFrom_109 : decode cX0_readFrom 109 = .ok (.return_, 1) := by decide +kernel
theorem dX0_readRung_0 : decode cX0_readRung 0 = .ok (.aload_n 0, 1) := by decide +kernel
theorem dX0_readRung_1 : decode cX0_readRung 1 = .ok (.getfield 15, 3) := by decide +kernel
theorem dX0_readRung_4 : decode cX0_readRung 4 = .ok (.bipush 10, 2) := by decide +kernel
theorem dX0_readRung_6 : decode cX0_readRung 6 = .ok (.if_icmp .lt 13, 3) := by decide +kernel
theorem dX0_readRung_9 : decode cX0_readRung 9 = .ok (.aload_n 1, 1) := by decide +kernel
theorem dX0_readRung_10 : decode cX0_readRung 10 = .ok (.iconst 3, 1) := by decide +kernel
theorem dX0_readRung_11 : decode cX0_readRung 11 = .ok (.aload_n 1, 1) := by decide +kernel
theorem dX0_readRung_12 : decode cX0_readRung 12 = .ok (.getfield 77, 3) := by decide +kernel
theorem dX0_readRung_15 : decode cX0_readRung 15 = .ok (.invokevirtual 73, 3) := by decide +kernel
theorem dX0_readRung_18 : decode cX0_readRung 18 = .ok (.return_, 1) := by decide +kernel
theorem dX0_readRung_19 : decode cX0_readRung 19 = .ok (.aload_n 1, 1) := by decide +kernel
theorem dX0_readRung_20 : decode cX0_readRung 20 = .ok (.invokevirtual 80, 3) := by decide +kernel
theorem dX0_readRung_23 : decode cX0_readRung 23 = .ok (.aload_n 0, 1) := by decide +kernel
theorem dX0_readRung_24 : decode cX0_readRung 24 = .ok (.getfield 9, 3) := by decide +kernel
theorem dX0_readRung_27 : decode cX0_readRung 27 = .ok (.aload_n 0, 1) := by decide +kernel
theorem dX0_readRung_28 : decode cX0_readRung 28 = .ok (.getfield 15, 3) := by decide +kernel
theorem dX0_readRung_31 : decode cX0_readRung 31 = .ok (.aload_n 1, 1) := by decide +kernel
theorem dX0_readRung_32 : decode cX0_readRung 32 = .ok (.iconst 0, 1) := by decide +kernel
theorem dX0_readRung_33 : decode cX0_readRung 33 = .ok (.sipush 999, 3) := by decide +kernel
theorem dX0_readRung_36 : decode cX0_readRung 36 = .ok (.invokevirtual 83, 3) := by decide +kernel
theorem dX0_readRung_39 : decode cX0_readRung 39 = .ok (.iastore, 1) := by decide +kernel
theorem dX0_readRung_40 : decode cX0_readRung 40 = .ok (.aload_n 1, 1) := by decide +kernel
theorem dX0_readRung_41 : decode cX0_readRung 41 = .ok (.ldc 86, 2) := by decide +kernel
theorem dX0_readRung_43 : decode cX0_readRung 43 = .ok (.invokevirtual 58, 3) := by decide +kernel
theorem dX0_readRung_46 : decode cX0_readRung 46 = .ok (.ifCond .eq 22, 3) := by decide +kernel
theorem dX0_readRung_49 : decode cX0_readRung 49 = .ok (.aload_n 0, 1) := by decide +kernel
theorem dX0_readRung_50 : decode cX0_readRung 50 = .ok (.aload_n 0, 1) := by decide +kernel
theorem dX0_readRung_51 : decode cX0_readRung 51 = .ok (.getfield 19, 3) := by decide +kernel
theorem dX0_readRung_54 : decode cX0_readRung 54 = .ok (.iconst 1, 1) := by decide +kernel
theorem dX0_readRung_55 : decode cX0_readRung 55 = .ok (.aload_n 0, 1) := by decide +kernel
theorem dX0_readRung_56 : decode cX0_readRung 56 = .ok (.getfield 15, 3) := by decide +kernel
theorem dX0_readRung_59 : decode cX0_readRung 59 = .ok (.ishl, 1) := by decide +kernel
theorem dX0_readRung_60 : decode cX0_readRung 60 = .ok (.ior, 1) := by decide +kernel
theorem dX0_readRung_61 : decode cX0_readRung 61 = .ok (.putfield 19, 3) := by decide +kernel
theorem dX0_readRung_64 : decode cX0_readRung 64 = .ok (.aload_n 1, 1) := by decide +kernel
theorem dX0_readRung_65 : decode cX0_readRung 65 = .ok (.invokevirtual 80, 3) := by decide +kernel
theorem dX0_readRung_68 : decode cX0_readRung 68 = .ok (.aload_n 1, 1) := by decide +kernel
theorem dX0_readRung_69 : decode cX0_readRung 69 = .ok (.invokevirtual 87, 3) := by decide +kernel
theorem dX0_readRung_72 : decode cX0_readRung 72 = .ok (.aload_n 0, 1) := by decide +kernel
theorem dX0_readRung_73 : decode cX0_readRung 73 = .ok (.dup, 1) := by decide +kernel
theorem dX0_readRung_74 : decode cX0_readRung 74 = .ok (.getfield 15, 3) := by decide +kernel
theorem dX0_readRung_77 : decode cX0_readRung 77 = .ok (.iconst 1, 1) := by decide +kernel
theorem dX0_readRung_78 : decode cX0_readRung 78 = .ok (.iadd, 1) := by decide +kernel
theorem dX0_readRung_79 : decode cX0_readRung 79 = .ok (.putfield 15, 3) := by decide +kernel
theorem dX0_readRung_82 : decode cX0_readRung 82 = .ok (.return_, 1) := by decide +kernel
theorem dX0_readStep_0 : decode cX0_readStep 0 = .ok (.aload_n 1, 1) := by decide +kernel
theorem dX0_readStep_1 : decode cX0_readStep 1 = .ok (.invokestatic 90, 3) := by decide +kernel
theorem dX0_readStep_4 : decode cX0_readStep 4 = .ok (.istore_n 3, 1) := by decide +kernel
theorem dX0_readStep_5 : decode cX0_readStep 5 = .ok (.iload_n 3, 1) := by decide +kernel
theorem dX0_readStep_6 : decode cX0_readStep 6 = .ok (.iconst (-1), 1) := by decide +kernel
theorem dX0_readStep_7 : decode cX0_readStep 7 = .ok (.if_icmp .ne 14, 3) := by decide +kernel
theorem dX0_readStep_10 : decode cX0_readStep 10 = .ok (.aload_n 1, 1) := by decide +kernel
theorem dX0_readStep_11 : decode cX0_readStep 11 = .ok (.iconst 1, 1) := by decide +kernel
theorem dX0_readStep_12 : decode cX0_readStep 12 = .ok (.aload_n 1, 1) := by decide +kernel
theorem dX0_readStep_13 : decode cX0_readStep 13 = .ok (.getfield 77, 3) := by decide +kernel
theorem dX0_readStep_16 : decode cX0_readStep 16 = .ok (.invokevirtual 73, 3) := by decide +kernel
theorem dX0_readStep_19 : decode cX0_readStep 19 = .ok (.iload_n 2, 1) := by decide +kernel
theorem dX0_readStep_20 : decode cX0_readStep 20 = .ok (.ireturn, 1) := by decide +kernel
theorem dX0_readStep_21 : decode cX0_readStep 21 = .ok (.iload_n 2, 1) := by decide +kernel
theorem dX0_readStep_22 : decode cX0_readStep 22 = .ok (.iload_n 3, 1) := by decide +kernel
theorem dX0_readStep_23 : decode cX0_readStep 23 = .ok (.ishr, 1) := by decide +kernel
theorem dX0_readStep_24 : decode cX0_readStep 24 = .ok (.iconst 1, 1) := by decide +kernel
theorem dX0_readStep_25 : decode cX0_readStep 25 = .ok (.iand, 1) := by decide +kernel
theorem dX0_readStep_26 : decode cX0_readStep 26 = .ok (.ifCond .eq 14, 3) := by decide +kernel
theorem dX0_readStep_29 : decode cX0_readStep 29 = .ok (.aload_n 1, 1) := by decide +kernel
theorem dX0_readStep_30 : decode cX0_readStep 30 = .ok (.iconst 3, 1) := by decide +kernel
theorem dX0_readStep_31 : decode cX0_readStep 31 = .ok (.aload_n 1, 1) := by decide +kernel
theorem dX0_readStep_32 : decode cX0_readStep 32 = .ok (.getfield 77, 3) := by decide +kernel
theorem dX0_readStep_35 : decode cX0_readStep 35 = .ok (.invokevirtual 73, 3) := by decide +kernel
theorem dX0_readStep_38 : decode cX0_readStep 38 = .ok (.iload_n 2, 1) := by decide +kernel
theorem dX0_readStep_39 : decode cX0_readStep 39 = .ok (.ireturn, 1) := by decide +kernel
theorem dX0_readStep_40 : decode cX0_readStep 40 = .ok (.aload_n 1, 1) := by decide +kernel
theorem dX0_readStep_41 : decode cX0_readStep 41 = .ok (.invokevirtual 80, 3) := by decide +kernel
theorem dX0_readStep_44 : decode cX0_readStep 44 = .ok (.aload_n 1, 1) := by decide +kernel
theorem dX0_readStep_45 : decode cX0_readStep 45 = .ok (.iload_n 3, 1) := by decide +kernel
theorem dX0_readStep_46 : decode cX0_readStep 46 = .ok (.ifCond .eq 8, 3) := by decide +kernel
theorem dX0_readStep_49 : decode cX0_readStep 49 = .ok (.iload_n 3, 1) := by decide +kernel
theorem dX0_readStep_50 : decode cX0_readStep 50 = .ok (.iconst 1, 1) := by decide +kernel
theorem dX0_readStep_51 : decode cX0_readStep 51 = .ok (.if_icmp .ne 7, 3) := by decide +kernel
theorem dX0_readStep_54 : decode cX0_readStep 54 = .ok (.iconst 1, 1) := by decide +kernel
theorem dX0_readStep_55 : decode cX0_readStep 55 = .ok (.goto 4, 3) := by decide +kernel
theorem dX0_readStep_58 : decode cX0_readStep 58 = .ok (.iconst 0, 1) := by decide +kernel
theorem dX0_readStep_59 : decode cX0_readStep 59 = .ok (.iload_n 3, 1) := by decide +kernel
theorem dX0_readStep_60 : decode cX0_readStep 60 = .ok (.iconst 2, 1) := by decide +kernel
theorem dX0_readStep_61 : decode cX0_readStep 61 = .ok (.if_icmp .ne 8, 3) := by decide +kernel
theorem dX0_readStep_64 : decode cX0_readStep 64 = .ok (.bipush 99, 2) := by decide +kernel
theorem dX0_readStep_66 : decode cX0_readStep 66 = .ok (.goto 5, 3) := by decide +kernel
theorem dX0_readStep_69 : decode cX0_readStep 69 = .ok (.bipush 9, 2) := by decide +kernel
theorem dX0_readStep_71 : decode cX0_readStep 71 = .ok (.invokevirtual 83, 3) := by decide +kernel
theorem dX0_readStep_74 : decode cX0_readStep 74 = .ok (.istore 4, 2) := by decide +kernel
theorem dX0_readStep_76 : decode cX0_readStep 76 = .ok (.aload_n 1, 1) := by decide +kernel
theorem dX0_readStep_77 : decode cX0_readStep 77 = .ok (.invokevirtual 87, 3) := by decide +kernel
theorem dX0_readStep_80 : decode cX0_readStep 80 = .ok (.aload_n 0, 1) := by decide +kernel
theorem dX0_readStep_81 : decode cX0_readStep 81 = .ok (.iload_n 3, 1) := by decide +kernel
theorem dX0_readStep_82 : decode cX0_readStep 82 = .ok (.iload 4, 2) := by decide +kernel
theorem dX0_readStep_84 : decode cX0_readStep 84 = .ok (.invokevirtual 94, 3) := by decide +kernel
theorem dX0_readStep_87 : decode cX0_readStep 87 = .ok (.iload_n 2, 1) := by decide +kernel
theorem dX0_readStep_88 : decode cX0_readStep 88 = .ok (.iconst 1, 1) := by decide +kernel
theorem dX0_readStep_89 : decode cX0_readStep 89 = .ok (.iload_n 3, 1) := by decide +kernel
theorem dX0_readStep_90 : decode cX0_readStep 90 = .ok (.ishl, 1) := by decide +kernel
theorem dX0_readStep_91 : decode cX0_readStep 91 = .ok (.ior, 1) := by decide +kernel
theorem dX0_readStep_92 : decode cX0_readStep 92 = .ok (.ireturn, 1) := by decide +kernel
theorem dX0_stepTold_0 : decode cX0_stepTold 0 = .ok (.aload_n 0, 1) := by decide +kernel
theorem dX0_stepTold_1 : decode cX0_stepTold 1 = .ok (.ldc 97, 2) := by decide +kernel
theorem dX0_stepTold_3 : decode cX0_stepTold 3 = .ok (.invokevirtual 58, 3) := by decide +kernel
theorem dX0_stepTold_6 : decode cX0_stepTold 6 = .ok (.ifCond .eq 5, 3) := by decide +kernel
theorem dX0_stepTold_9 : decode cX0_stepTold 9 = .ok (.iconst 0, 1) := by decide +kernel
theorem dX0_stepTold_10 : decode cX0_stepTold 10 = .ok (.ireturn, 1) := by decide +kernel
theorem dX0_stepTold_11 : decode cX0_stepTold 11 = .ok (.aload_n 0, 1) := by decide +kernel
theorem dX0_stepTold_12 : decode cX0_stepTold 12 = .ok (.ldc 98, 2) := by decide +kernel
theorem dX0_stepTold_14 : decode cX0_stepTold 14 = .ok (.invokevirtual 58, 3) := by decide +kernel
theorem dX0_stepTold_17 : decode cX0_stepTold 17 = .ok (.ifCond .eq 5, 3) := by decide +kernel
theorem dX0_stepTold_20 : decode cX0_stepTold 20 = .ok (.iconst 1, 1) := by decide +kernel
theorem dX0_stepTold_21 : decode cX0_stepTold 21 = .ok (.ireturn, 1) := by decide +kernel
theorem dX0_stepTold_22 : decode cX0_stepTold 22 = .ok (.aload_n 0, 1) := by decide +kernel
theorem dX0_stepTold_23 : decode cX0_stepTold 23 = .ok (.ldc 99, 2) := by decide +kernel
theorem dX0_stepTold_25 : decode cX0_stepTold 25 = .ok (.invokevirtual 58, 3) := by decide +kernel
theorem dX0_stepTold_28 : decode cX0_stepTold 28 = .ok (.ifCond .eq 5, 3) := by decide +kernel
theorem dX0_stepTold_31 : decode cX0_stepTold 31 = .ok (.iconst 2, 1) := by decide +kernel
theorem dX0_stepTold_32 : decode cX0_stepTold 32 = .ok (.ireturn, 1) := by decide +kernel
theorem dX0_stepTold_33 : decode cX0_stepTold 33 = .ok (.aload_n 0, 1) := by decide +kernel
theorem dX0_stepTold_34 : decode cX0_stepTold 34 = .ok (.ldc 100, 2) := by decide +kernel
theorem dX0_stepTold_36 : decode cX0_stepTold 36 = .ok (.invokevirtual 58, 3) := by decide +kernel
theorem dX0_stepTold_39 : decode cX0_stepTold 39 = .ok (.ifCond .eq 7, 3) := by decide +kernel
theorem dX0_stepTold_42 : decode cX0_stepTold 42 = .ok (.iconst 3, 1) := by decide +kernel
theorem dX0_stepTold_43 : decode cX0_stepTold 43 = .ok (.goto 4, 3) := by decide +kernel
theorem dX0_stepTold_46 : decode cX0_stepTold 46 = .ok (.iconst (-1), 1) := by decide +kernel
theorem dX0_stepTold_47 : decode cX0_stepTold 47 = .ok (.ireturn, 1) := by decide +kernel
theorem dX0_setStep_0 : decode cX0_setStep 0 = .ok (.iload_n 1, 1) := by decide +kernel
theorem dX0_setStep_1 : decode cX0_setStep 1 = .ok (.tableswitch 51 0 2 #[27, 35, 43], 27) := by decide +kernel
theorem dX0_setStep_28 : decode cX0_setStep 28 = .ok (.aload_n 0, 1) := by decide +kernel
theorem dX0_setStep_29 : decode cX0_setStep 29 = .ok (.iload_n 2, 1) := by decide +kernel
theorem dX0_setStep_30 : decode cX0_setStep 30 = .ok (.putfield 22, 3) := by decide +kernel
theorem dX0_setStep_33 : decode cX0_setStep 33 = .ok (.goto 24, 3) := by decide +kernel
theorem dX0_setStep_36 : decode cX0_setStep 36 = .ok (.aload_n 0, 1) := by decide +kernel
theorem dX0_setStep_37 : decode cX0_setStep 37 = .ok (.iload_n 2, 1) := by decide +kernel
theorem dX0_setStep_38 : decode cX0_setStep 38 = .ok (.putfield 25, 3) := by decide +kernel
theorem dX0_setStep_41 : decode cX0_setStep 41 = .ok (.goto 16, 3) := by decide +kernel
theorem dX0_setStep_44 : decode cX0_setStep 44 = .ok (.aload_n 0, 1) := by decide +kernel
theorem dX0_setStep_45 : decode cX0_setStep 45 = .ok (.iload_n 2, 1) := by decide +kernel
theorem dX0_setStep_46 : decode cX0_setStep 46 = .ok (.putfield 28, 3) := by decide +kernel
theorem dX0_setStep_49 : decode cX0_setStep 49 = .ok (.goto 8, 3) := by decide +kernel
theorem dX0_setStep_52 : decode cX0_setStep 52 = .ok (.aload_n 0, 1) := by decide +kernel
theorem dX0_setStep_53 : decode cX0_setStep 53 = .ok (.iload_n 2, 1) := by decide +kernel
theorem dX0_setStep_54 : decode cX0_setStep 54 = .ok (.putfield 31, 3) := by decide +kernel
theorem dX0_setStep_57 : decode cX0_setStep 57 = .ok (.return_, 1) := by decide +kernel
theorem dX1_init_0 : decode cX1_init 0 = .ok (.aload_n 0, 1) := by decide +kernel
theorem dX1_init_1 : decode cX1_init 1 = .ok (.invokespecial 3, 3) := by decide +kernel
theorem dX1_init_4 : decode cX1_init 4 = .ok (.aload_n 0, 1) := by decide +kernel
theorem dX1_init_5 : decode cX1_init 5 = .ok (.bipush 10, 2) := by decide +kernel
theorem dX1_init_7 : decode cX1_init 7 = .ok (.newarray .int, 2) := by decide +kernel
theorem dX1_init_9 : decode cX1_init 9 = .ok (.putfield 9, 3) := by decide +kernel
theorem dX1_init_12 : decode cX1_init 12 = .ok (.aload_n 0, 1) := by decide +kernel
theorem dX1_init_13 : decode cX1_init 13 = .ok (.bipush 10, 2) := by decide +kernel
theorem dX1_init_15 : decode cX1_init 15 = .ok (.newarray .int, 2) := by decide +kernel
theorem dX1_init_17 : decode cX1_init 17 = .ok (.putfield 15, 3) := by decide +kernel
theorem dX1_init_20 : decode cX1_init 20 = .ok (.aload_n 0, 1) := by decide +kernel
theorem dX1_init_21 : decode cX1_init 21 = .ok (.bipush 40, 2) := by decide +kernel
theorem dX1_init_23 : decode cX1_init 23 = .ok (.newarray .int, 2) := by decide +kernel
theorem dX1_init_25 : decode cX1_init 25 = .ok (.putfield 18, 3) := by decide +kernel
theorem dX1_init_28 : decode cX1_init 28 = .ok (.aload_n 0, 1) := by decide +kernel
theorem dX1_init_29 : decode cX1_init 29 = .ok (.bipush 10, 2) := by decide +kernel
theorem dX1_init_31 : decode cX1_init 31 = .ok (.newarray .int, 2) := by decide +kernel
theorem dX1_init_33 : decode cX1_init 33 = .ok (.putfield 21, 3) := by decide +kernel
theorem dX1_init_36 : decode cX1_init 36 = .ok (.aload_n 0, 1) := by decide +kernel
theorem dX1_init_37 : decode cX1_init 37 = .ok (.iconst 4, 1) := by decide +kernel
theorem dX1_init_38 : decode cX1_init 38 = .ok (.newarray .int, 2) := by decide +kernel
theorem dX1_init_40 : decode cX1_init 40 = .ok (.putfield 24, 3) := by decide +kernel
theorem dX1_init_43 : decode cX1_init 43 = .ok (.return_, 1) := by decide +kernel
theorem dX1_reckon_0 : decode cX1_reckon 0 = .ok (.iconst 0, 1) := by decide +kernel
theorem dX1_reckon_1 : decode cX1_reckon 1 = .ok (.istore_n 3, 1) := by decide +kernel
theorem dX1_reckon_2 : decode cX1_reckon 2 = .ok (.iload_n 3, 1) := by decide +kernel
theorem dX1_reckon_3 : decode cX1_reckon 3 = .ok (.bipush 10, 2) := by decide +kernel
theorem dX1_reckon_5 : decode cX1_reckon 5 = .ok (.if_icmp .ge 16, 3) := by decide +kernel
theorem dX1_reckon_8 : decode cX1_reckon 8 = .ok (.aload_n 0, 1) := by decide +kernel
theorem dX1_reckon_9 : decode cX1_reckon 9 = .ok (.getfield 21, 3) := by decide +kernel
theorem dX1_reckon_12 : decode cX1_reckon 12 = .ok (.iload_n 3, 1) := by decide +kernel
theorem dX1_reckon_13 : decode cX1_reckon 13 = .ok (.iconst 0, 1) := by decide +kernel
theorem dX1_reckon_14 : decode cX1_reckon 14 = .ok (.iastore, 1) := by decide +kernel
theorem dX1_reckon_15 : decode cX1_reckon 15 = .ok (.iinc 3 1, 3) := by decide +kernel
theorem dX1_reckon_18 : decode cX1_reckon 18 = .ok (.goto (-16), 3) := by decide +kernel
theorem dX1_reckon_21 : decode cX1_reckon 21 = .ok (.iconst 0, 1) := by decide +kernel
theorem dX1_reckon_22 : decode cX1_reckon 22 = .ok (.istore_n 3, 1) := by decide +kernel
theorem dX1_reckon_23 : decode cX1_reckon 23 = .ok (.iload_n 3, 1) := by decide +kernel
theorem dX1_reckon_24 : decode cX1_reckon 24 = .ok (.aload_n 1, 1) := by decide +kernel
theorem dX1_reckon_25 : decode cX1_reckon 25 = .ok (.getfield 27, 3) := by decide +kernel
theorem dX1_reckon_28 : decode cX1_reckon 28 = .ok (.getfield 33, 3) := by decide +kernel
theorem dX1_reckon_31 : decode cX1_reckon 31 = .ok (.if_icmp .ge 16, 3) := by decide +kernel
theorem dX1_reckon_34 : decode cX1_reckon 34 = .ok (.aload_n 0, 1) := by decide +kernel
theorem dX1_reckon_35 : decode cX1_reckon 35 = .ok (.aload_n 1, 1) := by decide +kernel
theorem dX1_reckon_36 : decode cX1_reckon 36 = .ok (.iload_n 2, 1) := by decide +kernel
theorem dX1_reckon_37 : decode cX1_reckon 37 = .ok (.iload_n 3, 1) := by decide +kernel
theorem dX1_reckon_38 : decode cX1_reckon 38 = .ok (.invokevirtual 39, 3) := by decide +kernel
theorem dX1_reckon_41 : decode cX1_reckon 41 = .ok (.iinc 3 1, 3) := by decide +kernel
theorem dX1_reckon_44 : decode cX1_reckon 44 = .ok (.goto (-21), 3) := by decide +kernel
theorem dX1_reckon_47 : decode cX1_reckon 47 = .ok (.return_, 1) := by decide +kernel
theorem dX1_reckonRung_0 : decode cX1_reckonRung 0 = .ok (.aload_n 1, 1) := by decide +kernel
theorem dX1_reckonRung_1 : decode cX1_reckonRung 1 = .ok (.getfield 43, 3) := by decide +kernel
theorem dX1_reckonRung_4 : decode cX1_reckonRung 4 = .ok (.ifnonnull 18, 3) := by decide +kernel
theorem dX1_reckonRung_7 : decode cX1_reckonRung 7 = .ok (.aload_n 1, 1) := by decide +kernel
theorem dX1_reckonRung_8 : decode cX1_reckonRung 8 = .ok (.iload_n 2, 1) := by decide +kernel
theorem dX1_reckonRung_9 : decode cX1_reckonRung 9 = .ok (.iload_n 3, 1) := by decide +kernel
theorem dX1_reckonRung_10 : decode cX1_reckonRung 10 = .ok (.aload_n 1, 1) := by decide +kernel
theorem dX1_reckonRung_11 : decode cX1_reckonRung 11 = .ok (.iload_n 2, 1) := by decide +kernel
theorem dX1_reckonRung_12 : decode cX1_reckonRung 12 = .ok (.iload_n 3, 1) := by decide +kernel
theorem dX1_reckonRung_13 : decode cX1_reckonRung 13 = .ok (.invokevirtual 47, 3) := by decide +kernel
theorem dX1_reckonRung_16 : decode cX1_reckonRung 16 = .ok (.invokevirtual 51, 3) := by decide +kernel
theorem dX1_reckonRung_19 : decode cX1_reckonRung 19 = .ok (.goto 10, 3) := by decide +kernel
theorem dX1_reckonRung_22 : decode cX1_reckonRung 22 = .ok (.aload_n 1, 1) := by decide +kernel
theorem dX1_reckonRung_23 : decode cX1_reckonRung 23 = .ok (.iconst 1, 1) := by decide +kernel
theorem dX1_reckonRung_24 : decode cX1_reckonRung 24 = .ok (.iload_n 3, 1) := by decide +kernel
theorem dX1_reckonRung_25 : decode cX1_reckonRung 25 = .ok (.iconst 0, 1) := by decide +kernel
theorem dX1_reckonRung_26 : decode cX1_reckonRung 26 = .ok (.invokevirtual 51, 3) := by decide +kernel
theorem dX1_reckonRung_29 : decode cX1_reckonRung 29 = .ok (.iconst 0, 1) := by decide +kernel
theorem dX1_reckonRung_30 : decode cX1_reckonRung 30 = .ok (.istore 4, 2) := by decide +kernel
theorem dX1_reckonRung_32 : decode cX1_reckonRung 32 = .ok (.iload 4, 2) := by decide +kernel
theorem dX1_reckonRung_34 : decode cX1_reckonRung 34 = .ok (.iconst 4, 1) := by decide +kernel
theorem dX1_reckonRung_35 : decode cX1_reckonRung 35 = .ok (.if_icmp .ge 27, 3) := by decide +kernel
theorem dX1_reckonRung_38 : decode cX1_reckonRung 38 = .ok (.aload_n 0, 1) := by decide +kernel
theorem dX1_reckonRung_39 : decode cX1_reckonRung 39 = .ok (.getfield 24, 3) := by decide +kernel
theorem dX1_reckonRung_42 : decode cX1_reckonRung 42 = .ok (.iload 4, 2) := by decide +kernel
theorem dX1_reckonRung_44 : decode cX1_reckonRung 44 = .ok (.iload 4, 2) := by decide +kernel
theorem dX1_reckonRung_46 : decode cX1_reckonRung 46 = .ok (.ifCond .ne 8, 3) := by decide +kernel
theorem dX1_reckonRung_49 : decode cX1_reckonRung 49 = .ok (.ldc 55, 2) := by decide +kernel
theorem dX1_reckonRung_51 : decode cX1_reckonRung 51 = .ok (.goto 4, 3) := by decide +kernel
theorem dX1_reckonRung_54 : decode cX1_reckonRung 54 = .ok (.iconst 0, 1) := by decide +kernel
theorem dX1_reckonRung_55 : decode cX1_reckonRung 55 = .ok (.iastore, 1) := by decide +kernel
theorem dX1_reckonRung_56 : decode cX1_reckonRung 56 = .ok (.iinc 4 1, 3) := by decide +kernel
theorem dX1_reckonRung_59 : decode cX1_reckonRung 59 = .ok (.goto (-27), 3) := by decide +kernel
theorem dX1_reckonRung_62 : decode cX1_reckonRung 62 = .ok (.aload_n 0, 1) := by decide +kernel
theorem dX1_reckonRung_63 : decode cX1_reckonRung 63 = .ok (.getfield 21, 3) := by decide +kernel
theorem dX1_reckonRung_66 : decode cX1_reckonRung 66 = .ok (.iload_n 3, 1) := by decide +kernel
theorem dX1_reckonRung_67 : decode cX1_reckonRung 67 = .ok (.iconst 0, 1) := by decide +kernel
theorem dX1_reckonRung_68 : decode cX1_reckonRung 68 = .ok (.iastore, 1) := by decide +kernel
theorem dX1_reckonRung_69 : decode cX1_reckonRung 69 = .ok (.iconst 0, 1) := by decide +kernel
theorem dX1_reckonRung_70 : decode cX1_reckonRung 70 = .ok (.istore 4, 2) := by decide +kernel
theorem dX1_reckonRung_72 : decode cX1_reckonRung 72 = .ok (.iload 4, 2) := by decide +kernel
theorem dX1_reckonRung_74 : decode cX1_reckonRung 74 = .ok (.bipush 12, 2) := by decide +kernel
theorem dX1_reckonRung_76 : decode cX1_reckonRung 76 = .ok (.if_icmp .ge 25, 3) := by decide +kernel
theorem dX1_reckonRung_79 : decode cX1_reckonRung 79 = .ok (.aload_n 0, 1) := by decide +kernel
theorem dX1_reckonRung_80 : decode cX1_reckonRung 80 = .ok (.getfield 21, 3) := by decide +kernel
theorem dX1_reckonRung_83 : decode cX1_reckonRung 83 = .ok (.iload_n 3, 1) := by decide +kernel
theorem dX1_reckonRung_84 : decode cX1_reckonRung 84 = .ok (.dup2, 1) := by decide +kernel
theorem dX1_reckonRung_85 : decode cX1_reckonRung 85 = .ok (.iaload, 1) := by decide +kernel
theorem dX1_reckonRung_86 : decode cX1_reckonRung 86 = .ok (.aload_n 0, 1) := by decide +kernel
theorem dX1_reckonRung_87 : decode cX1_reckonRung 87 = .ok (.aload_n 1, 1) := by decide +kernel
theorem dX1_reckonRung_88 : decode cX1_reckonRung 88 = .ok (.iload 4, 2) := by decide +kernel
theorem dX1_reckonRung_90 : decode cX1_reckonRung 90 = .ok (.invokevirtual 56, 3) := by decide +kernel
theorem dX1_reckonRung_93 : decode cX1_reckonRung 93 = .ok (.iadd, 1) := by decide +kernel
theorem dX1_reckonRung_94 : decode cX1_reckonRung 94 = .ok (.iastore, 1) := by decide +kernel
theorem dX1_reckonRung_95 : decode cX1_reckonRung 95 = .ok (.iinc 4 1, 3) := by decide +kernel
theorem dX1_reckonRung_98 : decode cX1_reckonRung 98 = .ok (.goto (-26), 3) := by decide +kernel
theorem dX1_reckonRung_101 : decode cX1_reckonRung 101 = .ok (.iconst 0, 1) := by decide +kernel
theorem dX1_reckonRung_102 : decode cX1_reckonRung 102 = .ok (.istore 4, 2) := by decide +kernel
theorem dX1_reckonRung_104 : decode cX1_reckonRung 104 = .ok (.iload 4, 2) := by decide +kernel
theorem dX1_reckonRung_106 : decode cX1_reckonRung 106 = .ok (.iconst 4, 1) := by decide +kernel
theorem dX1_reckonRung_107 : decode cX1_reckonRung 107 = .ok (.if_icmp .ge 27, 3) := by decide +kernel
theorem dX1_reckonRung_110 : decode cX1_reckonRung 110 = .ok (.aload_n 0, 1) := by decide +kernel
theorem dX1_reckonRung_111 : decode cX1_reckonRung 111 = .ok (.getfield 18, 3) := by decide +kernel
theorem dX1_reckonRung_114 : decode cX1_reckonRung 114 = .ok (.iload_n 3, 1) := by decide +kernel
theorem dX1_reckonRung_115 : decode cX1_reckonRung 115 = .ok (.iconst 4, 1) := by decide +kernel
theorem dX1_reckonRung_116 : decode cX1_reckonRung 116 = .ok (.imul, 1) := by decide +kernel
theorem dX1_reckonRung_117 : decode cX1_reckonRung 117 = .ok (.iload 4, 2) := by decide +kernel
theorem dX1_reckonRung_119 : decode cX1_reckonRung 119 = .ok (.iadd, 1) := by decide +kernel
theorem dX1_reckonRung_120 : decode cX1_reckonRung 120 = .ok (.aload_n 0, 1) := by decide +kernel
theorem dX1_reckonRung_121 : decode cX1_reckonRung 121 = .ok (.getfield 24, 3) := by decide +kernel
theorem dX1_reckonRung_124 : decode cX1_reckonRung 124 = .ok (.iload 4, 2) := by decide +kernel
theorem dX1_reckonRung_126 : decode cX1_reckonRung 126 = .ok (.iaload, 1) := by decide +kernel
theorem dX1_reckonRung_127 : decode cX1_reckonRung 127 = .ok (.iastore, 1) := by decide +kernel
theorem dX1_reckonRung_128 : decode cX1_reckonRung 128 = .ok (.iinc 4 1, 3) := by decide +kernel
theorem dX1_reckonRung_131 : decode cX1_reckonRung 131 = .ok (.goto (-27), 3) := by decide +kernel
theorem dX1_reckonRung_134 : decode cX1_reckonRung 134 = .ok (.return_, 1) := by decide +kernel
theorem dX1_oddsOf_0 : decode cX1_oddsOf 0 = .ok (.aload_n 0, 1) := by decide +kernel
theorem dX1_oddsOf_1 : decode cX1_oddsOf 1 = .ok (.getfield 18, 3) := by decide +kernel
theorem dX1_oddsOf_4 : decode cX1_oddsOf 4 = .ok (.iload_n 1, 1) := by decide +kernel
theorem dX1_oddsOf_5 : decode cX1_oddsOf 5 = .ok (.iconst 4, 1) := by decide +kernel
theorem dX1_oddsOf_6 : decode cX1_oddsOf 6 = .ok (.imul, 1) := by decide +kernel
theorem dX1_oddsOf_7 : decode cX1_oddsOf 7 = .ok (.iload_n 2, 1) := by decide +kernel
theorem dX1_oddsOf_8 : decode cX1_oddsOf 8 = .ok (.iadd, 1) := by decide +kernel
theorem dX1_oddsOf_9 : decode cX1_oddsOf 9 = .ok (.iaload, 1) := by decide +kernel
theorem dX1_oddsOf_10 : decode cX1_oddsOf 10 = .ok (.ireturn, 1) := by decide +kernel
theorem dX1_goTo_0 : decode cX1_goTo 0 = .ok (.iconst 0, 1) := by decide +kernel
theorem dX1_goTo_1 : decode cX1_goTo 1 = .ok (.istore_n 3, 1) := by decide +kernel
theorem dX1_goTo_2 : decode cX1_goTo 2 = .ok (.iload_n 3, 1) := by decide +kernel
theorem dX1_goTo_3 : decode cX1_goTo 3 = .ok (.bipush 10, 2) := by decide +kernel
theorem dX1_goTo_5 : decode cX1_goTo 5 = .ok (.if_icmp .ge 29, 3) := by decide +kernel
theorem dX1_goTo_8 : decode cX1_goTo 8 = .ok (.aload_n 0, 1) := by decide +kernel
theorem dX1_goTo_9 : decode cX1_goTo 9 = .ok (.getfield 9, 3) := by decide +kernel
theorem dX1_goTo_12 : decode cX1_goTo 12 = .ok (.iload_n 3, 1) := by decide +kernel
theorem dX1_goTo_13 : decode cX1_goTo 13 = .ok (.iload_n 3, 1) := by decide +kernel
theorem dX1_goTo_14 : decode cX1_goTo 14 = .ok (.aload_n 1, 1) := by decide +kernel
theorem dX1_goTo_15 : decode cX1_goTo 15 = .ok (.getfield 60, 3) := by decide +kernel
theorem dX1_goTo_18 : decode cX1_goTo 18 = .ok (.if_icmp .ne 8, 3) := by decide +kernel
theorem dX1_goTo_21 : decode cX1_goTo 21 = .ok (.ldc 55, 2) := by decide +kernel
theorem dX1_goTo_23 : decode cX1_goTo 23 = .ok (.goto 4, 3) := by decide +kernel
theorem dX1_goTo_26 : decode cX1_goTo 26 = .ok (.iconst 0, 1) := by decide +kernel
theorem dX1_goTo_27 : decode cX1_goTo 27 = .ok (.iastore, 1) := by decide +kernel
theorem dX1_goTo_28 : decode cX1_goTo 28 = .ok (.iinc 3 1, 3) := by decide +kernel
theorem dX1_goTo_31 : decode cX1_goTo 31 = .ok (.goto (-29), 3) := by decide +kernel
theorem dX1_goTo_34 : decode cX1_goTo 34 = .ok (.iconst 0, 1) := by decide +kernel
theorem dX1_goTo_35 : decode cX1_goTo 35 = .ok (.istore_n 3, 1) := by decide +kernel
theorem dX1_goTo_36 : decode cX1_goTo 36 = .ok (.iload_n 3, 1) := by decide +kernel
theorem dX1_goTo_37 : decode cX1_goTo 37 = .ok (.iload_n 2, 1) := by decide +kernel
theorem dX1_goTo_38 : decode cX1_goTo 38 = .ok (.if_icmp .ge 14, 3) := by decide +kernel
theorem dX1_goTo_41 : decode cX1_goTo 41 = .ok (.aload_n 0, 1) := by decide +kernel
theorem dX1_goTo_42 : decode cX1_goTo 42 = .ok (.aload_n 1, 1) := by decide +kernel
theorem dX1_goTo_43 : decode cX1_goTo 43 = .ok (.invokevirtual 63, 3) := by decide +kernel
theorem dX1_goTo_46 : decode cX1_goTo 46 = .ok (.iinc 3 1, 3) := by decide +kernel
theorem dX1_goTo_49 : decode cX1_goTo 49 = .ok (.goto (-13), 3) := by decide +kernel
theorem dX1_goTo_52 : decode cX1_goTo 52 = .ok (.return_, 1) := by decide +kernel
theorem dX1_paid_0 : decode cX1_paid 0 = .ok (.iconst 0, 1) := by decide +kernel
theorem dX1_paid_1 : decode cX1_paid 1 = .ok (.istore_n 2, 1) := by decide +kernel
theorem dX1_paid_2 : decode cX1_paid 2 = .ok (.iconst 0, 1) := by decide +kernel
theorem dX1_paid_3 : decode cX1_paid 3 = .ok (.istore_n 3, 1) := by decide +kernel
theorem dX1_paid_4 : decode cX1_paid 4 = .ok (.iload_n 3, 1) := by decide +kernel
theorem dX1_paid_5 : decode cX1_paid 5 = .ok (.aload_n 1, 1) := by decide +kernel
theorem dX1_paid_6 : decode cX1_paid 6 = .ok (.getfield 33, 3) := by decide +kernel
theorem dX1_paid_9 : decode cX1_paid 9 = .ok (.if_icmp .ge 32, 3) := by decide +kernel
theorem dX1_paid_12 : decode cX1_paid 12 = .ok (.iload_n 2, 1) := by decide +kernel
theorem dX1_paid_13 : decode cX1_paid 13 = .ok (.aload_n 0, 1) := by decide +kernel
theorem dX1_paid_14 : decode cX1_paid 14 = .ok (.getfield 9, 3) := by decide +kernel
theorem dX1_paid_17 : decode cX1_paid 17 = .ok (.iload_n 3, 1) := by decide +kernel
theorem dX1_paid_18 : decode cX1_paid 18 = .ok (.iaload, 1) := by decide +kernel
theorem dX1_paid_19 : decode cX1_paid 19 = .ok (.i2l, 1) := by decide +kernel
theorem dX1_paid_20 : decode cX1_paid 20 = .ok (.aload_n 1, 1) := by decide +kernel
theorem dX1_paid_21 : decode cX1_paid 21 = .ok (.getfield 67, 3) := by decide +kernel
theorem dX1_paid_24 : decode cX1_paid 24 = .ok (.iload_n 3, 1) := by decide +kernel
theorem dX1_paid_25 : decode cX1_paid 25 = .ok (.iaload, 1) := by decide +kernel
theorem dX1_paid_26 : decode cX1_paid 26 = .ok (.i2l, 1) := by decide +kernel
theorem dX1_paid_27 : decode cX1_paid 27 = .ok (.lmul, 1) := by decide +kernel
theorem dX1_paid_28 : decode cX1_paid 28 = .ok (.ldc2_w 70, 3) := by decide +kernel
theorem dX1_paid_31 : decode cX1_paid 31 = .ok (.ldiv, 1) := by decide +kernel
theorem dX1_paid_32 : decode cX1_paid 32 = .ok (.l2i, 1) := by decide +kernel
theorem dX1_paid_33 : decode cX1_paid 33 = .ok (.iadd, 1) := by decide +kernel
theorem dX1_paid_34 : decode cX1_paid 34 = .ok (.istore_n 2, 1) := by decide +kernel
theorem dX1_paid_35 : decode cX1_paid 35 = .ok (.iinc 3 1, 3) := by decide +kernel
theorem dX1_paid_38 : decode cX1_paid 38 = .ok (.goto (-34), 3) := by decide +kernel
theorem dX1_paid_41 : decode cX1_paid 41 = .ok (.iload_n 2, 1) := by decide +kernel
theorem dX1_paid_42 : decode cX1_paid 42 = .ok (.ireturn, 1) := by decide +kernel
theorem dX1_askedFor_0 : decode cX1_askedFor 0 = .ok (.iconst 0, 1) := by decide +kernel
theorem dX1_askedFor_1 : decode cX1_askedFor 1 = .ok (.istore_n 1, 1) := by decide +kernel
theorem dX1_askedFor_2 : decode cX1_askedFor 2 = .ok (.iconst 0, 1) := by decide +kernel
theorem dX1_askedFor_3 : decode cX1_askedFor 3 = .ok (.istore_n 2, 1) := by decide +kernel
theorem dX1_askedFor_4 : decode cX1_askedFor 4 = .ok (.iload_n 2, 1) := by decide +kernel
theorem dX1_askedFor_5 : decode cX1_askedFor 5 = .ok (.bipush 10, 2) := by decide +kernel
theorem dX1_askedFor_7 : decode cX1_askedFor 7 = .ok (.if_icmp .ge 32, 3) := by decide +kernel
theorem dX1_askedFor_10 : decode cX1_askedFor 10 = .ok (.iload_n 1, 1) := by decide +kernel
theorem dX1_askedFor_11 : decode cX1_askedFor 11 = .ok (.aload_n 0, 1) := by decide +kernel
theorem dX1_askedFor_12 : decode cX1_askedFor 12 = .ok (.getfield 9, 3) := by decide +kernel
theorem dX1_askedFor_15 : decode cX1_askedFor 15 = .ok (.iload_n 2, 1) := by decide +kernel
theorem dX1_askedFor_16 : decode cX1_askedFor 16 = .ok (.iaload, 1) := by decide +kernel
theorem dX1_askedFor_17 : decode cX1_askedFor 17 = .ok (.i2l, 1) := by decide +kernel
theorem dX1_askedFor_18 : decode cX1_askedFor 18 = .ok (.aload_n 0, 1) := by decide +kernel
theorem dX1_askedFor_19 : decode cX1_askedFor 19 = .ok (.getfield 21, 3) := by decide +kernel
theorem dX1_askedFor_22 : decode cX1_askedFor 22 = .ok (.iload_n 2, 1) := by decide +kernel
theorem dX1_askedFor_23 : decode cX1_askedFor 23 = .ok (.iaload, 1) := by decide +kernel
theorem dX1_askedFor_24 : decode cX1_askedFor 24 = .ok (.i2l, 1) := by decide +kernel
theorem dX1_askedFor_25 : decode cX1_askedFor 25 = .ok (.lmul, 1) := by decide +kernel
theorem dX1_askedFor_26 : decode cX1_askedFor 26 = .ok (.ldc2_w 72, 3) := by decide +kernel
theorem dX1_askedFor_29 : decode cX1_askedFor 29 = .ok (.ldiv, 1) := by decide +kernel
theorem dX1_askedFor_30 : decode cX1_askedFor 30 = .ok (.l2i, 1) := by decide +kernel
theorem dX1_askedFor_31 : decode cX1_askedFor 31 = .ok (.iadd, 1) := by decide +kernel
theorem dX1_askedFor_32 : decode cX1_askedFor 32 = .ok (.istore_n 1, 1) := by decide +kernel
theorem dX1_askedFor_33 : decode cX1_askedFor 33 = .ok (.iinc 2 1, 3) := by decide +kernel
theorem dX1_askedFor_36 : decode cX1_askedFor 36 = .ok (.goto (-32), 3) := by decide +kernel
theorem dX1_askedFor_39 : decode cX1_askedFor 39 = .ok (.iload_n 1, 1) := by decide +kernel
theorem dX1_askedFor_40 : decode cX1_askedFor 40 = .ok (.ireturn, 1) := by decide +kernel
theorem dX1_passMonth_0 : decode cX1_passMonth 0 = .ok (.iconst 0, 1) := by decide +kernel
theorem dX1_passMonth_1 : decode cX1_passMonth 1 = .ok (.istore_n 3, 1) := by decide +kernel
theorem dX1_passMonth_2 : decode cX1_passMonth 2 = .ok (.iconst 3, 1) := by decide +kernel
theorem dX1_passMonth_3 : decode cX1_passMonth 3 = .ok (.istore 4, 2) := by decide +kernel
theorem dX1_passMonth_5 : decode cX1_passMonth 5 = .ok (.iload 4, 2) := by decide +kernel
theorem dX1_passMonth_7 : decode cX1_passMonth 7 = .ok (.ifCond .lt 85, 3) := by decide +kernel
theorem dX1_passMonth_10 : decode cX1_passMonth 10 = .ok (.iload_n 3, 1) := by decide +kernel
theorem dX1_passMonth_11 : decode cX1_passMonth 11 = .ok (.aload_n 0, 1) := by decide +kernel
theorem dX1_passMonth_12 : decode cX1_passMonth 12 = .ok (.getfield 24, 3) := by decide +kernel
theorem dX1_passMonth_15 : decode cX1_passMonth 15 = .ok (.iload 4, 2) := by decide +kernel
theorem dX1_passMonth_17 : decode cX1_passMonth 17 = .ok (.iaload, 1) := by decide +kernel
theorem dX1_passMonth_18 : decode cX1_passMonth 18 = .ok (.i2l, 1) := by decide +kernel
theorem dX1_passMonth_19 : decode cX1_passMonth 19 = .ok (.aload_n 1, 1) := by decide +kernel
theorem dX1_passMonth_20 : decode cX1_passMonth 20 = .ok (.iload_n 2, 1) := by decide +kernel
theorem dX1_passMonth_21 : decode cX1_passMonth 21 = .ok (.iload 4, 2) := by decide +kernel
theorem dX1_passMonth_23 : decode cX1_passMonth 23 = .ok (.invokevirtual 74, 3) := by decide +kernel
theorem dX1_passMonth_26 : decode cX1_passMonth 26 = .ok (.i2l, 1) := by decide +kernel
theorem dX1_passMonth_27 : decode cX1_passMonth 27 = .ok (.lmul, 1) := by decide +kernel
theorem dX1_passMonth_28 : decode cX1_passMonth 28 = .ok (.ldc2_w 72, 3) := by decide +kernel
theorem dX1_passMonth_31 : decode cX1_passMonth 31 = .ok (.ldiv, 1) := by decide +kernel
theorem dX1_passMonth_32 : decode cX1_passMonth 32 = .ok (.l2i, 1) := by decide +kernel
theorem dX1_passMonth_33 : decode cX1_passMonth 33 = .ok (.iadd, 1) := by decide +kernel
theorem dX1_passMonth_34 : decode cX1_passMonth 34 = .ok (.istore_n 3, 1) := by decide +kernel
theorem dX1_passMonth_35 : decode cX1_passMonth 35 = .ok (.aload_n 0, 1) := by decide +kernel
theorem dX1_passMonth_36 : decode cX1_passMonth 36 = .ok (.getfield 24, 3) := by decide +kernel
theorem dX1_passMonth_39 : decode cX1_passMonth 39 = .ok (.iload 4, 2) := by decide +kernel
theorem dX1_passMonth_41 : decode cX1_passMonth 41 = .ok (.iaload, 1) := by decide +kernel
theorem dX1_passMonth_42 : decode cX1_passMonth 42 = .ok (.i2l, 1) := by decide +kernel
theorem dX1_passMonth_43 : decode cX1_passMonth 43 = .ok (.aload_n 1, 1) := by decide +kernel
theorem dX1_passMonth_44 : decode cX1_passMonth 44 = .ok (.iload_n 2, 1) := by decide +kernel
theorem dX1_passMonth_45 : decode cX1_passMonth 45 = .ok (.iload 4, 2) := by decide +kernel
theorem dX1_passMonth_47 : decode cX1_passMonth 47 = .ok (.invokevirtual 78, 3) := by decide +kernel
theorem dX1_passMonth_50 : decode cX1_passMonth 50 = .ok (.i2l, 1) := by decide +kernel
theorem dX1_passMonth_51 : decode cX1_passMonth 51 = .ok (.lmul, 1) := by decide +kernel
theorem dX1_passMonth_52 : decode cX1_passMonth 52 = .ok (.ldc2_w 70, 3) := by decide +kernel
theorem dX1_passMonth_55 : decode cX1_passMonth 55 = .ok (.ldiv, 1) := by decide +kernel
theorem dX1_passMonth_56 : decode cX1_passMonth 56 = .ok (.l2i, 1) := by decide +kernel
theorem dX1_passMonth_57 : decode cX1_passMonth 57 = .ok (.istore 5, 2) := by decide +kernel
theorem dX1_passMonth_59 : decode cX1_passMonth 59 = .ok (.aload_n 0, 1) := by decide +kernel
theorem dX1_passMonth_60 : decode cX1_passMonth 60 = .ok (.getfield 24, 3) := by decide +kernel
theorem dX1_passMonth_63 : decode cX1_passMonth 63 = .ok (.iload 4, 2) := by decide +kernel
theorem dX1_passMonth_65 : decode cX1_passMonth 65 = .ok (.dup2, 1) := by decide +kernel
theorem dX1_passMonth_66 : decode cX1_passMonth 66 = .ok (.iaload, 1) := by decide +kernel
theorem dX1_passMonth_67 : decode cX1_passMonth 67 = .ok (.iload 5, 2) := by decide +kernel
theorem dX1_passMonth_69 : decode cX1_passMonth 69 = .ok (.isub, 1) := by decide +kernel
theorem dX1_passMonth_70 : decode cX1_passMonth 70 = .ok (.iastore, 1) := by decide +kernel
theorem dX1_passMonth_71 : decode cX1_passMonth 71 = .ok (.aload_n 0, 1) := by decide +kernel
theorem dX1_passMonth_72 : decode cX1_passMonth 72 = .ok (.getfield 24, 3) := by decide +kernel
theorem dX1_passMonth_75 : decode cX1_passMonth 75 = .ok (.iload 4, 2) := by decide +kernel
theorem dX1_passMonth_77 : decode cX1_passMonth 77 = .ok (.invokestatic 81, 3) := by decide +kernel
theorem dX1_passMonth_80 : decode cX1_passMonth 80 = .ok (.dup2, 1) := by decide +kernel
theorem dX1_passMonth_81 : decode cX1_passMonth 81 = .ok (.iaload, 1) := by decide +kernel
theorem dX1_passMonth_82 : decode cX1_passMonth 82 = .ok (.iload 5, 2) := by decide +kernel
theorem dX1_passMonth_84 : decode cX1_passMonth 84 = .ok (.iadd, 1) := by decide +kernel
theorem dX1_passMonth_85 : decode cX1_passMonth 85 = .ok (.iastore, 1) := by decide +kernel
theorem dX1_passMonth_86 : decode cX1_passMonth 86 = .ok (.iinc 4 (-1), 3) := by decide +kernel
theorem dX1_passMonth_89 : decode cX1_passMonth 89 = .ok (.goto (-84), 3) := by decide +kernel
theorem dX1_passMonth_92 : decode cX1_passMonth 92 = .ok (.iload_n 3, 1) := by decide +kernel
theorem dX1_passMonth_93 : decode cX1_passMonth 93 = .ok (.ireturn, 1) := by decide +kernel
theorem dX1_passYear_0 : decode cX1_passYear 0 = .ok (.iconst 0, 1) := by decide +kernel
theorem dX1_passYear_1 : decode cX1_passYear 1 = .ok (.istore_n 2, 1) := by decide +kernel
theorem dX1_passYear_2 : decode cX1_passYear 2 = .ok (.iload_n 2, 1) := by decide +kernel
theorem dX1_passYear_3 : decode cX1_passYear 3 = .ok (.bipush 10, 2) := by decide +kernel
theorem dX1_passYear_5 : decode cX1_passYear 5 = .ok (.if_icmp .ge 16, 3) := by decide +kernel
theorem dX1_passYear_8 : decode cX1_passYear 8 = .ok (.aload_n 0, 1) := by decide +kernel
theorem dX1_passYear_9 : decode cX1_passYear 9 = .ok (.getfield 15, 3) := by decide +kernel
theorem dX1_passYear_12 : decode cX1_passYear 12 = .ok (.iload_n 2, 1) := by decide +kernel
theorem dX1_passYear_13 : decode cX1_passYear 13 = .ok (.iconst 0, 1) := by decide +kernel
theorem dX1_passYear_14 : decode cX1_passYear 14 = .ok (.iastore, 1) := by decide +kernel
theorem dX1_passYear_15 : decode cX1_passYear 15 = .ok (.iinc 2 1, 3) := by decide +kernel
theorem dX1_passYear_18 : decode cX1_passYear 18 = .ok (.goto (-16), 3) := by decide +kernel
theorem dX1_passYear_21 : decode cX1_passYear 21 = .ok (.ldc 55, 2) := by decide +kernel
theorem dX1_passYear_23 : decode cX1_passYear 23 = .ok (.istore_n 2, 1) := by decide +kernel
theorem dX1_passYear_24 : decode cX1_passYear 24 = .ok (.iconst 0, 1) := by decide +kernel
theorem dX1_passYear_25 : decode cX1_passYear 25 = .ok (.istore_n 3, 1) := by decide +kernel
theorem dX1_passYear_26 : decode cX1_passYear 26 = .ok (.iload_n 3, 1) := by decide +kernel
theorem dX1_passYear_27 : decode cX1_passYear 27 = .ok (.aload_n 1, 1) := by decide +kernel
theorem dX1_passYear_28 : decode cX1_passYear 28 = .ok (.getfield 33, 3) := by decide +kernel
theorem dX1_passYear_31 : decode cX1_passYear 31 = .ok (.if_icmp .ge 69, 3) := by decide +kernel
theorem dX1_passYear_34 : decode cX1_passYear 34 = .ok (.iconst 0, 1) := by decide +kernel
theorem dX1_passYear_35 : decode cX1_passYear 35 = .ok (.istore 4, 2) := by decide +kernel
theorem dX1_passYear_37 : decode cX1_passYear 37 = .ok (.iload 4, 2) := by decide +kernel
theorem dX1_passYear_39 : decode cX1_passYear 39 = .ok (.iconst 4, 1) := by decide +kernel
theorem dX1_passYear_40 : decode cX1_passYear 40 = .ok (.if_icmp .ge 54, 3) := by decide +kernel
theorem dX1_passYear_43 : decode cX1_passYear 43 = .ok (.aload_n 0, 1) := by decide +kernel
theorem dX1_passYear_44 : decode cX1_passYear 44 = .ok (.getfield 9, 3) := by decide +kernel
theorem dX1_passYear_47 : decode cX1_passYear 47 = .ok (.iload_n 3, 1) := by decide +kernel
theorem dX1_passYear_48 : decode cX1_passYear 48 = .ok (.iaload, 1) := by decide +kernel
theorem dX1_passYear_49 : decode cX1_passYear 49 = .ok (.i2l, 1) := by decide +kernel
theorem dX1_passYear_50 : decode cX1_passYear 50 = .ok (.aload_n 0, 1) := by decide +kernel
theorem dX1_passYear_51 : decode cX1_passYear 51 = .ok (.iload_n 3, 1) := by decide +kernel
theorem dX1_passYear_52 : decode cX1_passYear 52 = .ok (.iload 4, 2) := by decide +kernel
theorem dX1_passYear_54 : decode cX1_passYear 54 = .ok (.invokevirtual 85, 3) := by decide +kernel
theorem dX1_passYear_57 : decode cX1_passYear 57 = .ok (.i2l, 1) := by decide +kernel
theorem dX1_passYear_58 : decode cX1_passYear 58 = .ok (.lmul, 1) := by decide +kernel
theorem dX1_passYear_59 : decode cX1_passYear 59 = .ok (.ldc2_w 72, 3) := by decide +kernel
theorem dX1_passYear_62 : decode cX1_passYear 62 = .ok (.ldiv, 1) := by decide +kernel
theorem dX1_passYear_63 : decode cX1_passYear 63 = .ok (.l2i, 1) := by decide +kernel
theorem dX1_passYear_64 : decode cX1_passYear 64 = .ok (.istore 5, 2) := by decide +kernel
theorem dX1_passYear_66 : decode cX1_passYear 66 = .ok (.aload_n 0, 1) := by decide +kernel
theorem dX1_passYear_67 : decode cX1_passYear 67 = .ok (.getfield 15, 3) := by decide +kernel
theorem dX1_passYear_70 : decode cX1_passYear 70 = .ok (.aload_n 1, 1) := by decide +kernel
theorem dX1_passYear_71 : decode cX1_passYear 71 = .ok (.iload_n 3, 1) := by decide +kernel
theorem dX1_passYear_72 : decode cX1_passYear 72 = .ok (.iload 4, 2) := by decide +kernel
theorem dX1_passYear_74 : decode cX1_passYear 74 = .ok (.invokevirtual 88, 3) := by decide +kernel
theorem dX1_passYear_77 : decode cX1_passYear 77 = .ok (.dup2, 1) := by decide +kernel
theorem dX1_passYear_78 : decode cX1_passYear 78 = .ok (.iaload, 1) := by decide +kernel
theorem dX1_passYear_79 : decode cX1_passYear 79 = .ok (.iload 5, 2) := by decide +kernel
theorem dX1_passYear_81 : decode cX1_passYear 81 = .ok (.iadd, 1) := by decide +kernel
theorem dX1_passYear_82 : decode cX1_passYear 82 = .ok (.iastore, 1) := by decide +kernel
theorem dX1_passYear_83 : decode cX1_passYear 83 = .ok (.iload_n 2, 1) := by decide +kernel
theorem dX1_passYear_84 : decode cX1_passYear 84 = .ok (.iload 5, 2) := by decide +kernel
theorem dX1_passYear_86 : decode cX1_passYear 86 = .ok (.isub, 1) := by decide +kernel
theorem dX1_passYear_87 : decode cX1_passYear 87 = .ok (.istore_n 2, 1) := by decide +kernel
theorem dX1_passYear_88 : decode cX1_passYear 88 = .ok (.iinc 4 1, 3) := by decide +kernel
theorem dX1_passYear_91 : decode cX1_passYear 91 = .ok (.goto (-54), 3) := by decide +kernel
theorem dX1_passYear_94 : decode cX1_passYear 94 = .ok (.iinc 3 1, 3) := by decide +kernel
theorem dX1_passYear_97 : decode cX1_passYear 97 = .ok (.goto (-71), 3) := by decide +kernel
theorem dX1_passYear_100 : decode cX1_passYear 100 = .ok (.aload_n 0, 1) := by decide +kernel
theorem dX1_passYear_101 : decode cX1_passYear 101 = .ok (.getfield 15, 3) := by decide +kernel
theorem dX1_passYear_104 : decode cX1_passYear 104 = .ok (.iconst 0, 1) := by decide +kernel
theorem dX1_passYear_105 : decode cX1_passYear 105 = .ok (.dup2, 1) := by decide +kernel
theorem dX1_passYear_106 : decode cX1_passYear 106 = .ok (.iaload, 1) := by decide +kernel
theorem dX1_passYear_107 : decode cX1_passYear 107 = .ok (.iload_n 2, 1) := by decide +kernel
theorem dX1_passYear_108 : decode cX1_passYear 108 = .ok (.iadd, 1) := by decide +kernel
theorem dX1_passYear_109 : decode cX1_passYear 109 = .ok (.iastore, 1) := by decide +kernel
theorem dX1_passYear_110 : decode cX1_passYear 110 = .ok (.iconst 0, 1) := by decide +kernel
theorem dX1_passYear_111 : decode cX1_passYear 111 = .ok (.istore_n 3, 1) := by decide +kernel
theorem dX1_passYear_112 : decode cX1_passYear 112 = .ok (.iload_n 3, 1) := by decide +kernel
theorem dX1_passYear_113 : decode cX1_passYear 113 = .ok (.bipush 10, 2) := by decide +kernel
theorem dX1_passYear_115 : decode cX1_passYear 115 = .ok (.if_icmp .ge 21, 3) := by decide +kernel
theorem dX1_passYear_118 : decode cX1_passYear 118 = .ok (.aload_n 0, 1) := by decide +kernel
theorem dX1_passYear_119 : decode cX1_passYear 119 = .ok (.getfield 9, 3) := by decide +kernel
theorem dX1_passYear_122 : decode cX1_passYear 122 = .ok (.iload_n 3, 1) := by decide +kernel
theorem dX1_passYear_123 : decode cX1_passYear 123 = .ok (.aload_n 0, 1) := by decide +kernel
theorem dX1_passYear_124 : decode cX1_passYear 124 = .ok (.getfield 15, 3) := by decide +kernel
theorem dX1_passYear_127 : decode cX1_passYear 127 = .ok (.iload_n 3, 1) := by decide +kernel
theorem dX1_passYear_128 : decode cX1_passYear 128 = .ok (.iaload, 1) := by decide +kernel
theorem dX1_passYear_129 : decode cX1_passYear 129 = .ok (.iastore, 1) := by decide +kernel
theorem dX1_passYear_130 : decode cX1_passYear 130 = .ok (.iinc 3 1, 3) := by decide +kernel
theorem dX1_passYear_133 : decode cX1_passYear 133 = .ok (.goto (-21), 3) := by decide +kernel
theorem dX1_passYear_136 : decode cX1_passYear 136 = .ok (.return_, 1) := by decide +kernel
theorem dX2_init_0 : decode cX2_init 0 = .ok (.aload_n 0, 1) := by decide +kernel
theorem dX2_init_1 : decode cX2_init 1 = .ok (.invokespecial 3, 3) := by decide +kernel
theorem dX2_init_4 : decode cX2_init 4 = .ok (.aload_n 0, 1) := by decide +kernel
theorem dX2_init_5 : decode cX2_init 5 = .ok (.bipush 12, 2) := by decide +kernel
theorem dX2_init_7 : decode cX2_init 7 = .ok (.newarray .int, 2) := by decide +kernel
theorem dX2_init_9 : decode cX2_init 9 = .ok (.putfield 9, 3) := by decide +kernel
theorem dX2_init_12 : decode cX2_init 12 = .ok (.aload_n 0, 1) := by decide +kernel
theorem dX2_init_13 : decode cX2_init 13 = .ok (.bipush 12, 2) := by decide +kernel
theorem dX2_init_15 : decode cX2_init 15 = .ok (.newarray .int, 2) := by decide +kernel
theorem dX2_init_17 : decode cX2_init 17 = .ok (.putfield 15, 3) := by decide +kernel
theorem dX2_init_20 : decode cX2_init 20 = .ok (.aload_n 0, 1) := by decide +kernel
theorem dX2_init_21 : decode cX2_init 21 = .ok (.bipush 12, 2) := by decide +kernel
theorem dX2_init_23 : decode cX2_init 23 = .ok (.newarray .boolean, 2) := by decide +kernel
theorem dX2_init_25 : decode cX2_init 25 = .ok (.putfield 18, 3) := by decide +kernel
theorem dX2_init_28 : decode cX2_init 28 = .ok (.aload_n 0, 1) := by decide +kernel
theorem dX2_init_29 : decode cX2_init 29 = .ok (.iconst 0, 1) := by decide +kernel
theorem dX2_init_30 : decode cX2_init 30 = .ok (.putfield 22, 3) := by decide +kernel
theorem dX2_init_33 : decode cX2_init 33 = .ok (.aload_n 0, 1) := by decide +kernel
theorem dX2_init_34 : decode cX2_init 34 = .ok (.bipush 8, 2) := by decide +kernel
theorem dX2_init_36 : decode cX2_init 36 = .ok (.newarray .int, 2) := by decide +kernel
theorem dX2_init_38 : decode cX2_init 38 = .ok (.putfield 26, 3) := by decide +kernel
theorem dX2_init_41 : decode cX2_init 41 = .ok (.aload_n 0, 1) := by decide +kernel
theorem dX2_init_42 : decode cX2_init 42 = .ok (.bipush 8, 2) := by decide +kernel
theorem dX2_init_44 : decode cX2_init 44 = .ok (.newarray .int, 2) := by decide +kernel
theorem dX2_init_46 : decode cX2_init 46 = .ok (.putfield 29, 3) := by decide +kernel
theorem dX2_init_49 : decode cX2_init 49 = .ok (.aload_n 0, 1) := by decide +kernel
theorem dX2_init_50 : decode cX2_init 50 = .ok (.iconst 0, 1) := by decide +kernel
theorem dX2_init_51 : decode cX2_init 51 = .ok (.putfield 32, 3) := by decide +kernel
theorem dX2_init_54 : decode cX2_init 54 = .ok (.aload_n 0, 1) := by decide +kernel
theorem dX2_init_55 : decode cX2_init 55 = .ok (.iconst 0, 1) := by decide +kernel
theorem dX2_init_56 : decode cX2_init 56 = .ok (.putfield 35, 3) := by decide +kernel
theorem dX2_init_59 : decode cX2_init 59 = .ok (.aload_n 0, 1) := by decide +kernel
theorem dX2_init_60 : decode cX2_init 60 = .ok (.iconst 0, 1) := by decide +kernel
theorem dX2_init_61 : decode cX2_init 61 = .ok (.putfield 38, 3) := by decide +kernel
theorem dX2_init_64 : decode cX2_init 64 = .ok (.return_, 1) := by decide +kernel
theorem dX2_rises_0 : decode cX2_rises 0 = .ok (.aload_n 0, 1) := by decide +kernel
theorem dX2_rises_1 : decode cX2_rises 1 = .ok (.getfield 22, 3) := by decide +kernel
theorem dX2_rises_4 : decode cX2_rises 4 = .ok (.ifCond .eq 27, 3) := by decide +kernel
theorem dX2_rises_7 : decode cX2_rises 7 = .ok (.aload_n 0, 1) := by decide +kernel
theorem dX2_rises_8 : decode cX2_rises 8 = .ok (.getfield 22, 3) := by decide +kernel
theorem dX2_rises_11 : decode cX2_rises 11 = .ok (.bipush 12, 2) := by decide +kernel
theorem dX2_rises_13 : decode cX2_rises 13 = .ok (.if_icmp .ge 22, 3) := by decide +kernel
theorem dX2_rises_16 : decode cX2_rises 16 = .ok (.iload_n 1, 1) := by decide +kernel
theorem dX2_rises_17 : decode cX2_rises 17 = .ok (.aload_n 0, 1) := by decide +kernel
theorem dX2_rises_18 : decode cX2_rises 18 = .ok (.getfield 9, 3) := by decide +kernel
theorem dX2_rises_21 : decode cX2_rises 21 = .ok (.aload_n 0, 1) := by decide +kernel
theorem dX2_rises_22 : decode cX2_rises 22 = .ok (.getfield 22, 3) := by decide +kernel
theorem dX2_rises_25 : decode cX2_rises 25 = .ok (.iconst 1, 1) := by decide +kernel
theorem dX2_rises_26 : decode cX2_rises 26 = .ok (.isub, 1) := by decide +kernel
theorem dX2_rises_27 : decode cX2_rises 27 = .ok (.iaload, 1) := by decide +kernel
theorem dX2_rises_28 : decode cX2_rises 28 = .ok (.if_icmp .le 7, 3) := by decide +kernel
theorem dX2_rises_31 : decode cX2_rises 31 = .ok (.iconst 1, 1) := by decide +kernel
theorem dX2_rises_32 : decode cX2_rises 32 = .ok (.goto 4, 3) := by decide +kernel
theorem dX2_rises_35 : decode cX2_rises 35 = .ok (.iconst 0, 1) := by decide +kernel
theorem dX2_rises_36 : decode cX2_rises 36 = .ok (.ireturn, 1) := by decide +kernel
theorem dX2_addScrape_0 : decode cX2_addScrape 0 = .ok (.aload_n 0, 1) := by decide +kernel
theorem dX2_addScrape_1 : decode cX2_addScrape 1 = .ok (.getfield 22, 3) := by decide +kernel
theorem dX2_addScrape_4 : decode cX2_addScrape 4 = .ok (.bipush 12, 2) := by decide +kernel
theorem dX2_addScrape_6 : decode cX2_addScrape 6 = .ok (.if_icmp .ge 43, 3) := by decide +kernel
theorem dX2_addScrape_9 : decode cX2_addScrape 9 = .ok (.aload_n 0, 1) := by decide +kernel
theorem dX2_addScrape_10 : decode cX2_addScrape 10 = .ok (.getfield 9, 3) := by decide +kernel
theorem dX2_addScrape_13 : decode cX2_addScrape 13 = .ok (.aload_n 0, 1) := by decide +kernel
theorem dX2_addScrape_14 : decode cX2_addScrape 14 = .ok (.getfield 22, 3) := by decide +kernel
theorem dX2_addScrape_17 : decode cX2_addScrape 17 = .ok (.iload_n 1, 1) := by decide +kernel
theorem dX2_addScrape_18 : decode cX2_addScrape 18 = .ok (.iastore, 1) := by decide +kernel
theorem dX2_addScrape_19 : decode cX2_addScrape 19 = .ok (.aload_n 0, 1) := by decide +kernel
theorem dX2_addScrape_20 : decode cX2_addScrape 20 = .ok (.getfield 15, 3) := by decide +kernel
theorem dX2_addScrape_23 : decode cX2_addScrape 23 = .ok (.aload_n 0, 1) := by decide +kernel
theorem dX2_addScrape_24 : decode cX2_addScrape 24 = .ok (.getfield 22, 3) := by decide +kernel
theorem dX2_addScrape_27 : decode cX2_addScrape 27 = .ok (.iload_n 2, 1) := by decide +kernel
theorem dX2_addScrape_28 : decode cX2_addScrape 28 = .ok (.iastore, 1) := by decide +kernel
theorem dX2_addScrape_29 : decode cX2_addScrape 29 = .ok (.aload_n 0, 1) := by decide +kernel
theorem dX2_addScrape_30 : decode cX2_addScrape 30 = .ok (.getfield 18, 3) := by decide +kernel
theorem dX2_addScrape_33 : decode cX2_addScrape 33 = .ok (.aload_n 0, 1) := by decide +kernel
theorem dX2_addScrape_34 : decode cX2_addScrape 34 = .ok (.getfield 22, 3) := by decide +kernel
theorem dX2_addScrape_37 : decode cX2_addScrape 37 = .ok (.iload_n 3, 1) := by decide +kernel
theorem dX2_addScrape_38 : decode cX2_addScrape 38 = .ok (.bastore, 1) := by decide +kernel
theorem dX2_addScrape_39 : decode cX2_addScrape 39 = .ok (.aload_n 0, 1) := by decide +kernel
theorem dX2_addScrape_40 : decode cX2_addScrape 40 = .ok (.dup, 1) := by decide +kernel
theorem dX2_addScrape_41 : decode cX2_addScrape 41 = .ok (.getfield 22, 3) := by decide +kernel
theorem dX2_addScrape_44 : decode cX2_addScrape 44 = .ok (.iconst 1, 1) := by decide +kernel
theorem dX2_addScrape_45 : decode cX2_addScrape 45 = .ok (.iadd, 1) := by decide +kernel
theorem dX2_addScrape_46 : decode cX2_addScrape 46 = .ok (.putfield 22, 3) := by decide +kernel
theorem dX2_addScrape_49 : decode cX2_addScrape 49 = .ok (.return_, 1) := by decide +kernel
theorem dX2_addYear_0 : decode cX2_addYear 0 = .ok (.aload_n 0, 1) := by decide +kernel
theorem dX2_addYear_1 : decode cX2_addYear 1 = .ok (.getfield 32, 3) := by decide +kernel
theorem dX2_addYear_4 : decode cX2_addYear 4 = .ok (.bipush 8, 2) := by decide +kernel
theorem dX2_addYear_6 : decode cX2_addYear 6 = .ok (.if_icmp .ge 33, 3) := by decide +kernel
theorem dX2_addYear_9 : decode cX2_addYear 9 = .ok (.aload_n 0, 1) := by decide +kernel
theorem dX2_addYear_10 : decode cX2_addYear 10 = .ok (.getfield 26, 3) := by decide +kernel
theorem dX2_addYear_13 : decode cX2_addYear 13 = .ok (.aload_n 0, 1) := by decide +kernel
theorem dX2_addYear_14 : decode cX2_addYear 14 = .ok (.getfield 32, 3) := by decide +kernel
theorem dX2_addYear_17 : decode cX2_addYear 17 = .ok (.iload_n 1, 1) := by decide +kernel
theorem dX2_addYear_18 : decode cX2_addYear 18 = .ok (.iastore, 1) := by decide +kernel
theorem dX2_addYear_19 : decode cX2_addYear 19 = .ok (.aload_n 0, 1) := by decide +kernel
theorem dX2_addYear_20 : decode cX2_addYear 20 = .ok (.getfield 29, 3) := by decide +kernel
theorem dX2_addYear_23 : decode cX2_addYear 23 = .ok (.aload_n 0, 1) := by decide +kernel
theorem dX2_addYear_24 : decode cX2_addYear 24 = .ok (.getfield 32, 3) := by decide +kernel
theorem dX2_addYear_27 : decode cX2_addYear 27 = .ok (.iload_n 2, 1) := by decide +kernel
theorem dX2_addYear_28 : decode cX2_addYear 28 = .ok (.iastore, 1) := by decide +kernel
theorem dX2_addYear_29 : decode cX2_addYear 29 = .ok (.aload_n 0, 1) := by decide +kernel
theorem dX2_addYear_30 : decode cX2_addYear 30 = .ok (.dup, 1) := by decide +kernel
theorem dX2_addYear_31 : decode cX2_addYear 31 = .ok (.getfield 32, 3) := by decide +kernel
theorem dX2_addYear_34 : decode cX2_addYear 34 = .ok (.iconst 1, 1) := by decide +kernel
theorem dX2_addYear_35 : decode cX2_addYear 35 = .ok (.iadd, 1) := by decide +kernel
theorem dX2_addYear_36 : decode cX2_addYear 36 = .ok (.putfield 32, 3) := by decide +kernel
theorem dX2_addYear_39 : decode cX2_addYear 39 = .ok (.return_, 1) := by decide +kernel
theorem dX2_highestRung_0 : decode cX2_highestRung 0 = .ok (.iconst (-1), 1) := by decide +kernel
theorem dX2_highestRung_1 : decode cX2_highestRung 1 = .ok (.istore_n 1, 1) := by decide +kernel
theorem dX2_highestRung_2 : decode cX2_highestRung 2 = .ok (.iconst 0, 1) := by decide +kernel
theorem dX2_highestRung_3 : decode cX2_highestRung 3 = .ok (.istore_n 2, 1) := by decide +kernel
theorem dX2_highestRung_4 : decode cX2_highestRung 4 = .ok (.iload_n 2, 1) := by decide +kernel
theorem dX2_highestRung_5 : decode cX2_highestRung 5 = .ok (.aload_n 0, 1) := by decide +kernel
theorem dX2_highestRung_6 : decode cX2_highestRung 6 = .ok (.getfield 32, 3) := by decide +kernel
theorem dX2_highestRung_9 : decode cX2_highestRung 9 = .ok (.if_icmp .ge 20, 3) := by decide +kernel
theorem dX2_highestRung_12 : decode cX2_highestRung 12 = .ok (.iload_n 1, 1) := by decide +kernel
theorem dX2_highestRung_13 : decode cX2_highestRung 13 = .ok (.aload_n 0, 1) := by decide +kernel
theorem dX2_highestRung_14 : decode cX2_highestRung 14 = .ok (.getfield 26, 3) := by decide +kernel
theorem dX2_highestRung_17 : decode cX2_highestRung 17 = .ok (.iload_n 2, 1) := by decide +kernel
theorem dX2_highestRung_18 : decode cX2_highestRung 18 = .ok (.iaload, 1) := by decide +kernel
theorem dX2_highestRung_19 : decode cX2_highestRung 19 = .ok (.invokestatic 42, 3) := by decide +kernel
theorem dX2_highestRung_22 : decode cX2_highestRung 22 = .ok (.istore_n 1, 1) := by decide +kernel
theorem dX2_highestRung_23 : decode cX2_highestRung 23 = .ok (.iinc 2 1, 3) := by decide +kernel
theorem dX2_highestRung_26 : decode cX2_highestRung 26 = .ok (.goto (-22), 3) := by decide +kernel
theorem dX2_highestRung_29 : decode cX2_highestRung 29 = .ok (.iload_n 1, 1) := by decide +kernel
theorem dX2_highestRung_30 : decode cX2_highestRung 30 = .ok (.ireturn, 1) := by decide +kernel
theorem dX2_draw_0 : decode cX2_draw 0 = .ok (.aload_n 0, 1) := by decide +kernel
theorem dX2_draw_1 : decode cX2_draw 1 = .ok (.aload_n 0, 1) := by decide +kernel
theorem dX2_draw_2 : decode cX2_draw 2 = .ok (.getfield 35, 3) := by decide +kernel
theorem dX2_draw_5 : decode cX2_draw 5 = .ok (.i2l, 1) := by decide +kernel
theorem dX2_draw_6 : decode cX2_draw 6 = .ok (.ldc2_w 48, 3) := by decide +kernel
theorem dX2_draw_9 : decode cX2_draw 9 = .ok (.lmul, 1) := by decide +kernel
theorem dX2_draw_10 : decode cX2_draw 10 = .ok (.ldc2_w 50, 3) := by decide +kernel
theorem dX2_draw_13 : decode cX2_draw 13 = .ok (.ladd, 1) := by decide +kernel
theorem dX2_draw_14 : decode cX2_draw 14 = .ok (.ldc2_w 52, 3) := by decide +kernel
theorem dX2_draw_17 : decode cX2_draw 17 = .ok (.land, 1) := by decide +kernel
theorem dX2_draw_18 : decode cX2_draw 18 = .ok (.l2i, 1) := by decide +kernel
theorem dX2_draw_19 : decode cX2_draw 19 = .ok (.putfield 35, 3) := by decide +kernel
theorem dX2_draw_22 : decode cX2_draw 22 = .ok (.iload_n 1, 1) := by decide +kernel
theorem dX2_draw_23 : decode cX2_draw 23 = .ok (.ifCond .le 15, 3) := by decide +kernel
theorem dX2_draw_26 : decode cX2_draw 26 = .ok (.aload_n 0, 1) := by decide +kernel
theorem dX2_draw_27 : decode cX2_draw 27 = .ok (.getfield 35, 3) := by decide +kernel
theorem dX2_draw_30 : decode cX2_draw 30 = .ok (.ldc 54, 2) := by decide +kernel
theorem dX2_draw_32 : decode cX2_draw 32 = .ok (.idiv, 1) := by decide +kernel
theorem dX2_draw_33 : decode cX2_draw 33 = .ok (.iload_n 1, 1) := by decide +kernel
theorem dX2_draw_34 : decode cX2_draw 34 = .ok (.irem, 1) := by decide +kernel
theorem dX2_draw_35 : decode cX2_draw 35 = .ok (.goto 4, 3) := by decide +kernel
theorem dX2_draw_38 : decode cX2_draw 38 = .ok (.iconst 0, 1) := by decide +kernel
theorem dX2_draw_39 : decode cX2_draw 39 = .ok (.ireturn, 1) := by decide +kernel
theorem dX2_copyFrom_0 : decode cX2_copyFrom 0 = .ok (.iconst 0, 1) := by decide +kernel
theorem dX2_copyFrom_1 : decode cX2_copyFrom 1 = .ok (.istore_n 2, 1) := by decide +kernel
theorem dX2_copyFrom_2 : decode cX2_copyFrom 2 = .ok (.iload_n 2, 1) := by decide +kernel
theorem dX2_copyFrom_3 : decode cX2_copyFrom 3 = .ok (.bipush 12, 2) := by decide +kernel
theorem dX2_copyFrom_5 : decode cX2_copyFrom 5 = .ok (.if_icmp .ge 45, 3) := by decide +kernel
theorem dX2_copyFrom_8 : decode cX2_copyFrom 8 = .ok (.aload_n 0, 1) := by decide +kernel
theorem dX2_copyFrom_9 : decode cX2_copyFrom 9 = .ok (.getfield 9, 3) := by decide +kernel
theorem dX2_copyFrom_12 : decode cX2_copyFrom 12 = .ok (.iload_n 2, 1) := by decide +kernel
theorem dX2_copyFrom_13 : decode cX2_copyFrom 13 = .ok (.aload_n 1, 1) := by decide +kernel
theorem dX2_copyFrom_14 : decode cX2_copyFrom 14 = .ok (.getfield 9, 3) := by decide +kernel
theorem dX2_copyFrom_17 : decode cX2_copyFrom 17 = .ok (.iload_n 2, 1) := by decide +kernel
theorem dX2_copyFrom_18 : decode cX2_copyFrom 18 = .ok (.iaload, 1) := by decide +kernel
theorem dX2_copyFrom_19 : decode cX2_copyFrom 19 = .ok (.iastore, 1) := by decide +kernel
theorem dX2_copyFrom_20 : decode cX2_copyFrom 20 = .ok (.aload_n 0, 1) := by decide +kernel
theorem dX2_copyFrom_21 : decode cX2_copyFrom 21 = .ok (.getfield 15, 3) := by decide +kernel
theorem dX2_copyFrom_24 : decode cX2_copyFrom 24 = .ok (.iload_n 2, 1) := by decide +kernel
theorem dX2_copyFrom_25 : decode cX2_copyFrom 25 = .ok (.aload_n 1, 1) := by decide +kernel
theorem dX2_copyFrom_26 : decode cX2_copyFrom 26 = .ok (.getfield 15, 3) := by decide +kernel
theorem dX2_copyFrom_29 : decode cX2_copyFrom 29 = .ok (.iload_n 2, 1) := by decide +kernel
theorem dX2_copyFrom_30 : decode cX2_copyFrom 30 = .ok (.iaload, 1) := by decide +kernel
theorem dX2_copyFrom_31 : decode cX2_copyFrom 31 = .ok (.iastore, 1) := by decide +kernel
theorem dX2_copyFrom_32 : decode cX2_copyFrom 32 = .ok (.aload_n 0, 1) := by decide +kernel
theorem dX2_copyFrom_33 : decode cX2_copyFrom 33 = .ok (.getfield 18, 3) := by decide +kernel
theorem dX2_copyFrom_36 : decode cX2_copyFrom 36 = .ok (.iload_n 2, 1) := by decide +kernel
theorem dX2_copyFrom_37 : decode cX2_copyFrom 37 = .ok (.aload_n 1, 1) := by decide +kernel
theorem dX2_copyFrom_38 : decode cX2_copyFrom 38 = .ok (.getfield 18, 3) := by decide +kernel
theorem dX2_copyFrom_41 : decode cX2_copyFrom 41 = .ok (.iload_n 2, 1) := by decide +kernel
theorem dX2_copyFrom_42 : decode cX2_copyFrom 42 = .ok (.baload, 1) := by decide +kernel
theorem dX2_copyFrom_43 : decode cX2_copyFrom 43 = .ok (.bastore, 1) := by decide +kernel
theorem dX2_copyFrom_44 : decode cX2_copyFrom 44 = .ok (.iinc 2 1, 3) := by decide +kernel
theorem dX2_copyFrom_47 : decode cX2_copyFrom 47 = .ok (.goto (-45), 3) := by decide +kernel
theorem dX2_copyFrom_50 : decode cX2_copyFrom 50 = .ok (.aload_n 0, 1) := by decide +kernel
theorem dX2_copyFrom_51 : decode cX2_copyFrom 51 = .ok (.aload_n 1, 1) := by decide +kernel
theorem dX2_copyFrom_52 : decode cX2_copyFrom 52 = .ok (.getfield 22, 3) := by decide +kernel
theorem dX2_copyFrom_55 : decode cX2_copyFrom 55 = .ok (.putfield 22, 3) := by decide +kernel
theorem dX2_copyFrom_58 : decode cX2_copyFrom 58 = .ok (.iconst 0, 1) := by decide +kernel
theorem dX2_copyFrom_59 : decode cX2_copyFrom 59 = .ok (.istore_n 2, 1) := by decide +kernel
theorem dX2_copyFrom_60 : decode cX2_copyFrom 60 = .ok (.iload_n 2, 1) := by decide +kernel
theorem dX2_copyFrom_61 : decode cX2_copyFrom 61 = .ok (.bipush 8, 2) := by decide +kernel
theorem dX2_copyFrom_63 : decode cX2_copyFrom 63 = .ok (.if_icmp .ge 33, 3) := by decide +kernel
theorem dX2_copyFrom_66 : decode cX2_copyFrom 66 = .ok (.aload_n 0, 1) := by decide +kernel
theorem dX2_copyFrom_67 : decode cX2_copyFrom 67 = .ok (.getfield 26, 3) := by decide +kernel
theorem dX2_copyFrom_70 : decode cX2_copyFrom 70 = .ok (.iload_n 2, 1) := by decide +kernel
theorem dX2_copyFrom_71 : decode cX2_copyFrom 71 = .ok (.aload_n 1, 1) := by decide +kernel
theorem dX2_copyFrom_72 : decode cX2_copyFrom 72 = .ok (.getfield 26, 3) := by decide +kernel
theorem dX2_copyFrom_75 : decode cX2_copyFrom 75 = .ok (.iload_n 2, 1) := by decide +kernel
theorem dX2_copyFrom_76 : decode cX2_copyFrom 76 = .ok (.iaload, 1) := by decide +kernel
theorem dX2_copyFrom_77 : decode cX2_copyFrom 77 = .ok (.iastore, 1) := by decide +kernel
theorem dX2_copyFrom_78 : decode cX2_copyFrom 78 = .ok (.aload_n 0, 1) := by decide +kernel
theorem dX2_copyFrom_79 : decode cX2_copyFrom 79 = .ok (.getfield 29, 3) := by decide +kernel
theorem dX2_copyFrom_82 : decode cX2_copyFrom 82 = .ok (.iload_n 2, 1) := by decide +kernel
theorem dX2_copyFrom_83 : decode cX2_copyFrom 83 = .ok (.aload_n 1, 1) := by decide +kernel
theorem dX2_copyFrom_84 : decode cX2_copyFrom 84 = .ok (.getfield 29, 3) := by decide +kernel
theorem dX2_copyFrom_87 : decode cX2_copyFrom 87 = .ok (.iload_n 2, 1) := by decide +kernel
theorem dX2_copyFrom_88 : decode cX2_copyFrom 88 = .ok (.iaload, 1) := by decide +kernel
theorem dX2_copyFrom_89 : decode cX2_copyFrom 89 = .ok (.iastore, 1) := by decide +kernel
theorem dX2_copyFrom_90 : decode cX2_copyFrom 90 = .ok (.iinc 2 1, 3) := by decide +kernel
theorem dX2_copyFrom_93 : decode cX2_copyFrom 93 = .ok (.goto (-33), 3) := by decide +kernel
theorem dX2_copyFrom_96 : decode cX2_copyFrom 96 = .ok (.aload_n 0, 1) := by decide +kernel
theorem dX2_copyFrom_97 : decode cX2_copyFrom 97 = .ok (.aload_n 1, 1) := by decide +kernel
theorem dX2_copyFrom_98 : decode cX2_copyFrom 98 = .ok (.getfield 32, 3) := by decide +kernel
theorem dX2_copyFrom_101 : decode cX2_copyFrom 101 = .ok (.putfield 32, 3) := by decide +kernel
theorem dX2_copyFrom_104 : decode cX2_copyFrom 104 = .ok (.aload_n 0, 1) := by decide +kernel
theorem dX2_copyFrom_105 : decode cX2_copyFrom 105 = .ok (.aload_n 1, 1) := by decide +kernel
theorem dX2_copyFrom_106 : decode cX2_copyFrom 106 = .ok (.getfield 35, 3) := by decide +kernel
theorem dX2_copyFrom_109 : decode cX2_copyFrom 109 = .ok (.putfield 35, 3) := by decide +kernel
theorem dX2_copyFrom_112 : decode cX2_copyFrom 112 = .ok (.return_, 1) := by decide +kernel
theorem dX3_init_0 : decode cX3_init 0 = .ok (.aload_n 0, 1) := by decide +kernel
theorem dX3_init_1 : decode cX3_init 1 = .ok (.invokespecial 3, 3) := by decide +kernel
theorem dX3_init_4 : decode cX3_init 4 = .ok (.aload_n 0, 1) := by decide +kernel
theorem dX3_init_5 : decode cX3_init 5 = .ok (.aconst_null, 1) := by decide +kernel
theorem dX3_init_6 : decode cX3_init 6 = .ok (.putfield 9, 3) := by decide +kernel
theorem dX3_init_9 : decode cX3_init 9 = .ok (.aload_n 0, 1) := by decide +kernel
theorem dX3_init_10 : decode cX3_init 10 = .ok (.sipush 310, 3) := by decide +kernel
theorem dX3_init_13 : decode cX3_init 13 = .ok (.newarray .int, 2) := by decide +kernel
theorem dX3_init_15 : decode cX3_init 15 = .ok (.putfield 15, 3) := by decide +kernel
theorem dX3_init_18 : decode cX3_init 18 = .ok (.aload_n 0, 1) := by decide +kernel
theorem dX3_init_19 : decode cX3_init 19 = .ok (.bipush 31, 2) := by decide +kernel
theorem dX3_init_21 : decode cX3_init 21 = .ok (.newarray .int, 2) := by decide +kernel
theorem dX3_init_23 : decode cX3_init 23 = .ok (.putfield 19, 3) := by decide +kernel
theorem dX3_init_26 : decode cX3_init 26 = .ok (.aload_n 0, 1) := by decide +kernel
theorem dX3_init_27 : decode cX3_init 27 = .ok (.iconst 0, 1) := by decide +kernel
theorem dX3_init_28 : decode cX3_init 28 = .ok (.putfield 22, 3) := by decide +kernel
theorem dX3_init_31 : decode cX3_init 31 = .ok (.aload_n 0, 1) := by decide +kernel
theorem dX3_init_32 : decode cX3_init 32 = .ok (.bipush 52, 2) := by decide +kernel
theorem dX3_init_34 : decode cX3_init 34 = .ok (.newarray .int, 2) := by decide +kernel
theorem dX3_init_36 : decode cX3_init 36 = .ok (.putfield 26, 3) := by decide +kernel
theorem dX3_init_39 : decode cX3_init 39 = .ok (.aload_n 0, 1) := by decide +kernel
theorem dX3_init_40 : decode cX3_init 40 = .ok (.bipush 48, 2) := by decide +kernel
theorem dX3_init_42 : decode cX3_init 42 = .ok (.newarray .int, 2) := by decide +kernel
theorem dX3_init_44 : decode cX3_init 44 = .ok (.putfield 29, 3) := by decide +kernel
theorem dX3_init_47 : decode cX3_init 47 = .ok (.aload_n 0, 1) := by decide +kernel
theorem dX3_init_48 : decode cX3_init 48 = .ok (.bipush 8, 2) := by decide +kernel
theorem dX3_init_50 : decode cX3_init 50 = .ok (.newarray .int, 2) := by decide +kernel
theorem dX3_init_52 : decode cX3_init 52 = .ok (.putfield 32, 3) := by decide +kernel
theorem dX3_init_55 : decode cX3_init 55 = .ok (.aload_n 0, 1) := by decide +kernel
theorem dX3_init_56 : decode cX3_init 56 = .ok (.bipush 9, 2) := by decide +kernel
theorem dX3_init_58 : decode cX3_init 58 = .ok (.newarray .int, 2) := by decide +kernel
theorem dX3_init_60 : decode cX3_init 60 = .ok (.putfield 35, 3) := by decide +kernel
theorem dX3_init_63 : decode cX3_init 63 = .ok (.aload_n 0, 1) := by decide +kernel
theorem dX3_init_64 : decode cX3_init 64 = .ok (.bipush 9, 2) := by decide +kernel
theorem dX3_init_66 : decode cX3_init 66 = .ok (.newarray .int, 2) := by decide +kernel
theorem dX3_init_68 : decode cX3_init 68 = .ok (.putfield 38, 3) := by decide +kernel
theorem dX3_init_71 : decode cX3_init 71 = .ok (.aload_n 0, 1) := by decide +kernel
theorem dX3_init_72 : decode cX3_init 72 = .ok (.iconst 0, 1) := by decide +kernel
theorem dX3_init_73 : decode cX3_init 73 = .ok (.putfield 41, 3) := by decide +kernel
theorem dX3_init_76 : decode cX3_init 76 = .ok (.aload_n 0, 1) := by decide +kernel
theorem dX3_init_77 : decode cX3_init 77 = .ok (.iconst 0, 1) := by decide +kernel
theorem dX3_init_78 : decode cX3_init 78 = .ok (.putfield 44, 3) := by decide +kernel
theorem dX3_init_81 : decode cX3_init 81 = .ok (.aload_n 0, 1) := by decide +kernel
theorem dX3_init_82 : decode cX3_init 82 = .ok (.aload_n 1, 1) := by decide +kernel
theorem dX3_init_83 : decode cX3_init 83 = .ok (.putfield 47, 3) := by decide +kernel
theorem dX3_init_86 : decode cX3_init 86 = .ok (.aload_n 0, 1) := by decide +kernel
theorem dX3_init_87 : decode cX3_init 87 = .ok (.aload_n 2, 1) := by decide +kernel
theorem dX3_init_88 : decode cX3_init 88 = .ok (.putfield 51, 3) := by decide +kernel
theorem dX3_init_91 : decode cX3_init 91 = .ok (.return_, 1) := by decide +kernel
theorem dX3_begin_0 : decode cX3_begin 0 = .ok (.aload_n 0, 1) := by decide +kernel
theorem dX3_begin_1 : decode cX3_begin 1 = .ok (.aload_n 1, 1) := by decide +kernel
theorem dX3_begin_2 : decode cX3_begin 2 = .ok (.putfield 47, 3) := by decide +kernel
theorem dX3_begin_5 : decode cX3_begin 5 = .ok (.aload_n 0, 1) := by decide +kernel
theorem dX3_begin_6 : decode cX3_begin 6 = .ok (.aload_n 2, 1) := by decide +kernel
theorem dX3_begin_7 : decode cX3_begin 7 = .ok (.putfield 51, 3) := by decide +kernel
theorem dX3_begin_10 : decode cX3_begin 10 = .ok (.aload_n 0, 1) := by decide +kernel
theorem dX3_begin_11 : decode cX3_begin 11 = .ok (.aload_n 3, 1) := by decide +kernel
theorem dX3_begin_12 : decode cX3_begin 12 = .ok (.putfield 9, 3) := by decide +kernel
theorem dX3_begin_15 : decode cX3_begin 15 = .ok (.aload_n 0, 1) := by decide +kernel
theorem dX3_begin_16 : decode cX3_begin 16 = .ok (.iconst 0, 1) := by decide +kernel
theorem dX3_begin_17 : decode cX3_begin 17 = .ok (.putfield 22, 3) := by decide +kernel
theorem dX3_begin_20 : decode cX3_begin 20 = .ok (.return_, 1) := by decide +kernel
theorem dX3_forget_0 : decode cX3_forget 0 = .ok (.aload_n 0, 1) := by decide +kernel
theorem dX3_forget_1 : decode cX3_forget 1 = .ok (.iconst 0, 1) := by decide +kernel
theorem dX3_forget_2 : decode cX3_forget 2 = .ok (.putfield 22, 3) := by decide +kernel
theorem dX3_forget_5 : decode cX3_forget 5 = .ok (.return_, 1) := by decide +kernel
theorem dX3_know_0 : decode cX3_know 0 = .ok (.aload_n 0, 1) := by decide +kernel
theorem dX3_know_1 : decode cX3_know 1 = .ok (.getfield 22, 3) := by decide +kernel
theorem dX3_know_4 : decode cX3_know 4 = .ok (.iconst 1, 1) := by decide +kernel
theorem dX3_know_5 : decode cX3_know 5 = .ok (.iadd, 1) := by decide +kernel
theorem dX3_know_6 : decode cX3_know 6 = .ok (.istore_n 2, 1) := by decide +kernel
theorem dX3_know_7 : decode cX3_know 7 = .ok (.iload_n 2, 1) := by decide +kernel
theorem dX3_know_8 : decode cX3_know 8 = .ok (.iload_n 1, 1) := by decide +kernel
theorem dX3_know_9 : decode cX3_know 9 = .ok (.if_icmp .gt 45, 3) := by decide +kernel
theorem dX3_know_12 : decode cX3_know 12 = .ok (.iload_n 2, 1) := by decide +kernel
theorem dX3_know_13 : decode cX3_know 13 = .ok (.bipush 30, 2) := by decide +kernel
theorem dX3_know_15 : decode cX3_know 15 = .ok (.if_icmp .gt 39, 3) := by decide +kernel
theorem dX3_know_18 : decode cX3_know 18 = .ok (.iconst 0, 1) := by decide +kernel
theorem dX3_know_19 : decode cX3_know 19 = .ok (.istore_n 3, 1) := by decide +kernel
theorem dX3_know_20 : decode cX3_know 20 = .ok (.iload_n 3, 1) := by decide +kernel
theorem dX3_know_21 : decode cX3_know 21 = .ok (.aload_n 0, 1) := by decide +kernel
theorem dX3_know_22 : decode cX3_know 22 = .ok (.getfield 51, 3) := by decide +kernel
theorem dX3_know_25 : decode cX3_know 25 = .ok (.getfield 55, 3) := by decide +kernel
theorem dX3_know_28 : decode cX3_know 28 = .ok (.if_icmp .ge 15, 3) := by decide +kernel
theorem dX3_know_31 : decode cX3_know 31 = .ok (.aload_n 0, 1) := by decide +kernel
theorem dX3_know_32 : decode cX3_know 32 = .ok (.iload_n 2, 1) := by decide +kernel
theorem dX3_know_33 : decode cX3_know 33 = .ok (.iload_n 3, 1) := by decide +kernel
theorem dX3_know_34 : decode cX3_know 34 = .ok (.invokevirtual 60, 3) := by decide +kernel
theorem dX3_know_37 : decode cX3_know 37 = .ok (.iinc 3 1, 3) := by decide +kernel
theorem dX3_know_40 : decode cX3_know 40 = .ok (.goto (-20), 3) := by decide +kernel
theorem dX3_know_43 : decode cX3_know 43 = .ok (.aload_n 0, 1) := by decide +kernel
theorem dX3_know_44 : decode cX3_know 44 = .ok (.iload_n 2, 1) := by decide +kernel
theorem dX3_know_45 : decode cX3_know 45 = .ok (.putfield 22, 3) := by decide +kernel
theorem dX3_know_48 : decode cX3_know 48 = .ok (.iinc 2 1, 3) := by decide +kernel
theorem dX3_know_51 : decode cX3_know 51 = .ok (.goto (-44), 3) := by decide +kernel
theorem dX3_know_54 : decode cX3_know 54 = .ok (.return_, 1) := by decide +kernel
theorem dX3_costWith_0 : decode cX3_costWith 0 = .ok (.aload_n 0, 1) := by decide +kernel
theorem dX3_costWith_1 : decode cX3_costWith 1 = .ok (.getfield 15, 3) := by decide +kernel
theorem dX3_costWith_4 : decode cX3_costWith 4 = .ok (.iload_n 1, 1) := by decide +kernel
theorem dX3_costWith_5 : decode cX3_costWith 5 = .ok (.bipush 10, 2) := by decide +kernel
theorem dX3_costWith_7 : decode cX3_costWith 7 = .ok (.imul, 1) := by decide +kernel
theorem dX3_costWith_8 : decode cX3_costWith 8 = .ok (.iload_n 2, 1) := by decide +kernel
theorem dX3_costWith_9 : decode cX3_costWith 9 = .ok (.iadd, 1) := by decide +kernel
theorem dX3_costWith_10 : decode cX3_costWith 10 = .ok (.iaload, 1) := by decide +kernel
theorem dX3_costWith_11 : decode cX3_costWith 11 = .ok (.ireturn, 1) := by decide +kernel
theorem dX3_isPained_0 : decode cX3_isPained 0 = .ok (.aload_n 0, 1) := by decide +kernel
theorem dX3_isPained_1 : decode cX3_isPained 1 = .ok (.getfield 19, 3) := by decide +kernel
theorem dX3_isPained_4 : decode cX3_isPained 4 = .ok (.iload_n 1, 1) := by decide +kernel
theorem dX3_isPained_5 : decode cX3_isPained 5 = .ok (.iaload, 1) := by decide +kernel
theorem dX3_isPained_6 : decode cX3_isPained 6 = .ok (.iload_n 2, 1) := by decide +kernel
theorem dX3_isPained_7 : decode cX3_isPained 7 = .ok (.ishr, 1) := by decide +kernel
theorem dX3_isPained_8 : decode cX3_isPained 8 = .ok (.iconst 1, 1) := by decide +kernel
theorem dX3_isPained_9 : decode cX3_isPained 9 = .ok (.iand, 1) := by decide +kernel
theorem dX3_isPained_10 : decode cX3_isPained 10 = .ok (.ifCond .eq 7, 3) := by decide +kernel
theorem dX3_isPained_13 : decode cX3_isPained 13 = .ok (.iconst 1, 1) := by decide +kernel
theorem dX3_isPained_14 : decode cX3_isPained 14 = .ok (.goto 4, 3) := by decide +kernel
theorem dX3_isPained_17 : decode cX3_isPained 17 = .ok (.iconst 0, 1) := by decide +kernel
theorem dX3_isPained_18 : decode cX3_isPained 18 = .ok (.ireturn, 1) := by decide +kernel
theorem dX3_openYear_0 : decode cX3_openYear 0 = .ok (.aload_n 0, 1) := by decide +kernel
theorem dX3_openYear_1 : decode cX3_openYear 1 = .ok (.iload_n 2, 1) := by decide +kernel
theorem dX3_openYear_2 : decode cX3_openYear 2 = .ok (.putfield 44, 3) := by decide +kernel
theorem dX3_openYear_5 : decode cX3_openYear 5 = .ok (.aload_n 0, 1) := by decide +kernel
theorem dX3_openYear_6 : decode cX3_openYear 6 = .ok (.iload_n 3, 1) := by decide +kernel
theorem dX3_openYear_7 : decode cX3_openYear 7 = .ok (.ifCond .eq 17, 3) := by decide +kernel
theorem dX3_openYear_10 : decode cX3_openYear 10 = .ok (.aload_n 0, 1) := by decide +kernel
theorem dX3_openYear_11 : decode cX3_openYear 11 = .ok (.getfield 47, 3) := by decide +kernel
theorem dX3_openYear_14 : decode cX3_openYear 14 = .ok (.getfield 64, 3) := by decide +kernel
theorem dX3_openYear_17 : decode cX3_openYear 17 = .ok (.ifCond .eq 7, 3) := by decide +kernel
theorem dX3_openYear_20 : decode cX3_openYear 20 = .ok (.iconst 1, 1) := by decide +kernel
theorem dX3_openYear_21 : decode cX3_openYear 21 = .ok (.goto 4, 3) := by decide +kernel
theorem dX3_openYear_24 : decode cX3_openYear 24 = .ok (.iconst 0, 1) := by decide +kernel
theorem dX3_openYear_25 : decode cX3_openYear 25 = .ok (.invokevirtual 70, 3) := by decide +kernel
theorem dX3_openYear_28 : decode cX3_openYear 28 = .ok (.iconst 0, 1) := by decide +kernel
theorem dX3_openYear_29 : decode cX3_openYear 29 = .ok (.istore 4, 2) := by decide +kernel
theorem dX3_openYear_31 : decode cX3_openYear 31 = .ok (.iload 4, 2) := by decide +kernel
theorem dX3_openYear_33 : decode cX3_openYear 33 = .ok (.iconst 4, 1) := by decide +kernel
theorem dX3_openYear_34 : decode cX3_openYear 34 = .ok (.if_icmp .ge 41, 3) := by decide +kernel
theorem dX3_openYear_37 : decode cX3_openYear 37 = .ok (.aload_n 0, 1) := by decide +kernel
theorem dX3_openYear_38 : decode cX3_openYear 38 = .ok (.getfield 26, 3) := by decide +kernel
theorem dX3_openYear_41 : decode cX3_openYear 41 = .ok (.bipush 48, 2) := by decide +kernel
theorem dX3_openYear_43 : decode cX3_openYear 43 = .ok (.iload 4, 2) := by decide +kernel
theorem dX3_openYear_45 : decode cX3_openYear 45 = .ok (.iadd, 1) := by decide +kernel
theorem dX3_openYear_46 : decode cX3_openYear 46 = .ok (.aload_n 0, 1) := by decide +kernel
theorem dX3_openYear_47 : decode cX3_openYear 47 = .ok (.getfield 15, 3) := by decide +kernel
theorem dX3_openYear_50 : decode cX3_openYear 50 = .ok (.iload_n 1, 1) := by decide +kernel
theorem dX3_openYear_51 : decode cX3_openYear 51 = .ok (.iconst 1, 1) := by decide +kernel
theorem dX3_openYear_52 : decode cX3_openYear 52 = .ok (.isub, 1) := by decide +kernel
theorem dX3_openYear_53 : decode cX3_openYear 53 = .ok (.bipush 10, 2) := by decide +kernel
theorem dX3_openYear_55 : decode cX3_openYear 55 = .ok (.imul, 1) := by decide +kernel
theorem dX3_openYear_56 : decode cX3_openYear 56 = .ok (.aload_n 0, 1) := by decide +kernel
theorem dX3_openYear_57 : decode cX3_openYear 57 = .ok (.getfield 51, 3) := by decide +kernel
theorem dX3_openYear_60 : decode cX3_openYear 60 = .ok (.iload_n 2, 1) := by decide +kernel
theorem dX3_openYear_61 : decode cX3_openYear 61 = .ok (.iload 4, 2) := by decide +kernel
theorem dX3_openYear_63 : decode cX3_openYear 63 = .ok (.invokevirtual 74, 3) := by decide +kernel
theorem dX3_openYear_66 : decode cX3_openYear 66 = .ok (.iadd, 1) := by decide +kernel
theorem dX3_openYear_67 : decode cX3_openYear 67 = .ok (.iaload, 1) := by decide +kernel
theorem dX3_openYear_68 : decode cX3_openYear 68 = .ok (.iastore, 1) := by decide +kernel
theorem dX3_openYear_69 : decode cX3_openYear 69 = .ok (.iinc 4 1, 3) := by decide +kernel
theorem dX3_openYear_72 : decode cX3_openYear 72 = .ok (.goto (-41), 3) := by decide +kernel
theorem dX3_openYear_75 : decode cX3_openYear 75 = .ok (.bipush 11, 2) := by decide +kernel
theorem dX3_openYear_77 : decode cX3_openYear 77 = .ok (.istore 4, 2) := by decide +kernel
theorem dX3_openYear_79 : decode cX3_openYear 79 = .ok (.iload 4, 2) := by decide +kernel
theorem dX3_openYear_81 : decode cX3_openYear 81 = .ok (.ifCond .lt 32, 3) := by decide +kernel
theorem dX3_openYear_84 : decode cX3_openYear 84 = .ok (.iconst 0, 1) := by decide +kernel
theorem dX3_openYear_85 : decode cX3_openYear 85 = .ok (.istore 5, 2) := by decide +kernel
theorem dX3_openYear_87 : decode cX3_openYear 87 = .ok (.iload 5, 2) := by decide +kernel
theorem dX3_openYear_89 : decode cX3_openYear 89 = .ok (.iconst 4, 1) := by decide +kernel
theorem dX3_openYear_90 : decode cX3_openYear 90 = .ok (.if_icmp .ge 17, 3) := by decide +kernel
theorem dX3_openYear_93 : decode cX3_openYear 93 = .ok (.aload_n 0, 1) := by decide +kernel
theorem dX3_openYear_94 : decode cX3_openYear 94 = .ok (.iload 4, 2) := by decide +kernel
theorem dX3_openYear_96 : decode cX3_openYear 96 = .ok (.iload 5, 2) := by decide +kernel
theorem dX3_openYear_98 : decode cX3_openYear 98 = .ok (.invokevirtual 78, 3) := by decide +kernel
theorem dX3_openYear_101 : decode cX3_openYear 101 = .ok (.iinc 5 1, 3) := by decide +kernel
theorem dX3_openYear_104 : decode cX3_openYear 104 = .ok (.goto (-17), 3) := by decide +kernel
theorem dX3_openYear_107 : decode cX3_openYear 107 = .ok (.iinc 4 (-1), 3) := by decide +kernel
theorem dX3_openYear_110 : decode cX3_openYear 110 = .ok (.goto (-31), 3) := by decide +kernel
theorem dX3_openYear_113 : decode cX3_openYear 113 = .ok (.return_, 1) := by decide +kernel
theorem dX3_inside_0 : decode cX3_inside 0 = .ok (.aload_n 0, 1) := by decide +kernel
theorem dX3_inside_1 : decode cX3_inside 1 = .ok (.getfield 26, 3) := by decide +kernel
theorem dX3_inside_4 : decode cX3_inside 4 = .ok (.iload_n 1, 1) := by decide +kernel
theorem dX3_inside_5 : decode cX3_inside 5 = .ok (.iconst 4, 1) := by decide +kernel
theorem dX3_inside_6 : decode cX3_inside 6 = .ok (.imul, 1) := by decide +kernel
theorem dX3_inside_7 : decode cX3_inside 7 = .ok (.iload_n 2, 1) := by decide +kernel
theorem dX3_inside_8 : decode cX3_inside 8 = .ok (.iadd, 1) := by decide +kernel
theorem dX3_inside_9 : decode cX3_inside 9 = .ok (.iaload, 1) := by decide +kernel
theorem dX3_inside_10 : decode cX3_inside 10 = .ok (.ireturn, 1) := by decide +kernel
theorem dX3_isAsked_0 : decode cX3_isAsked 0 = .ok (.iload_n 3, 1) := by decide +kernel
theorem dX3_isAsked_1 : decode cX3_isAsked 1 = .ok (.aload_n 0, 1) := by decide +kernel
theorem dX3_isAsked_2 : decode cX3_isAsked 2 = .ok (.getfield 51, 3) := by decide +kernel
theorem dX3_isAsked_5 : decode cX3_isAsked 5 = .ok (.iload_n 3, 1) := by decide +kernel
theorem dX3_isAsked_6 : decode cX3_isAsked 6 = .ok (.invokevirtual 81, 3) := by decide +kernel
theorem dX3_isAsked_9 : decode cX3_isAsked 9 = .ok (.isub, 1) := by decide +kernel
theorem dX3_isAsked_10 : decode cX3_isAsked 10 = .ok (.sipush 1000, 3) := by decide +kernel
theorem dX3_isAsked_13 : decode cX3_isAsked 13 = .ok (.imul, 1) := by decide +kernel
theorem dX3_isAsked_14 : decode cX3_isAsked 14 = .ok (.aload_n 0, 1) := by decide +kernel
theorem dX3_isAsked_15 : decode cX3_isAsked 15 = .ok (.iload_n 1, 1) := by decide +kernel
theorem dX3_isAsked_16 : decode cX3_isAsked 16 = .ok (.iload_n 2, 1) := by decide +kernel
theorem dX3_isAsked_17 : decode cX3_isAsked 17 = .ok (.invokevirtual 85, 3) := by decide +kernel
theorem dX3_isAsked_20 : decode cX3_isAsked 20 = .ok (.if_icmp .le 7, 3) := by decide +kernel
theorem dX3_isAsked_23 : decode cX3_isAsked 23 = .ok (.iconst 1, 1) := by decide +kernel
theorem dX3_isAsked_24 : decode cX3_isAsked 24 = .ok (.goto 4, 3) := by decide +kernel
theorem dX3_isAsked_27 : decode cX3_isAsked 27 = .ok (.iconst 0, 1) := by decide +kernel
theorem dX3_isAsked_28 : decode cX3_isAsked 28 = .ok (.ireturn, 1) := by decide +kernel
theorem dX3_leastAsked_0 : decode cX3_leastAsked 0 = .ok (.aload_n 0, 1) := by decide +kernel
theorem dX3_leastAsked_1 : decode cX3_leastAsked 1 = .ok (.getfield 29, 3) := by decide +kernel
theorem dX3_leastAsked_4 : decode cX3_leastAsked 4 = .ok (.iload_n 1, 1) := by decide +kernel
theorem dX3_leastAsked_5 : decode cX3_leastAsked 5 = .ok (.iconst 4, 1) := by decide +kernel
theorem dX3_leastAsked_6 : decode cX3_leastAsked 6 = .ok (.imul, 1) := by decide +kernel
theorem dX3_leastAsked_7 : decode cX3_leastAsked 7 = .ok (.iload_n 2, 1) := by decide +kernel
theorem dX3_leastAsked_8 : decode cX3_leastAsked 8 = .ok (.iadd, 1) := by decide +kernel
theorem dX3_leastAsked_9 : decode cX3_leastAsked 9 = .ok (.iaload, 1) := by decide +kernel
theorem dX3_leastAsked_10 : decode cX3_leastAsked 10 = .ok (.istore_n 3, 1) := by decide +kernel
theorem dX3_leastAsked_11 : decode cX3_leastAsked 11 = .ok (.iload_n 3, 1) := by decide +kernel
theorem dX3_leastAsked_12 : decode cX3_leastAsked 12 = .ok (.aload_n 0, 1) := by decide +kernel
theorem dX3_leastAsked_13 : decode cX3_leastAsked 13 = .ok (.getfield 47, 3) := by decide +kernel
theorem dX3_leastAsked_16 : decode cX3_leastAsked 16 = .ok (.getfield 88, 3) := by decide +kernel
theorem dX3_leastAsked_19 : decode cX3_leastAsked 19 = .ok (.if_icmp .ge 15, 3) := by decide +kernel
theorem dX3_leastAsked_22 : decode cX3_leastAsked 22 = .ok (.aload_n 0, 1) := by decide +kernel
theorem dX3_leastAsked_23 : decode cX3_leastAsked 23 = .ok (.getfield 47, 3) := by decide +kernel
theorem dX3_leastAsked_26 : decode cX3_leastAsked 26 = .ok (.getfield 91, 3) := by decide +kernel
theorem dX3_leastAsked_29 : decode cX3_leastAsked 29 = .ok (.iload_n 3, 1) := by decide +kernel
theorem dX3_leastAsked_30 : decode cX3_leastAsked 30 = .ok (.iaload, 1) := by decide +kernel
theorem dX3_leastAsked_31 : decode cX3_leastAsked 31 = .ok (.goto 4, 3) := by decide +kernel
theorem dX3_leastAsked_34 : decode cX3_leastAsked 34 = .ok (.iconst (-1), 1) := by decide +kernel
theorem dX3_leastAsked_35 : decode cX3_leastAsked 35 = .ok (.ireturn, 1) := by decide +kernel
theorem dX3_chanceAsked_0 : decode cX3_chanceAsked 0 = .ok (.aload_n 0, 1) := by decide +kernel
theorem dX3_chanceAsked_1 : decode cX3_chanceAsked 1 = .ok (.getfield 35, 3) := by decide +kernel
theorem dX3_chanceAsked_4 : decode cX3_chanceAsked 4 = .ok (.aload_n 0, 1) := by decide +kernel
theorem dX3_chanceAsked_5 : decode cX3_chanceAsked 5 = .ok (.getfield 29, 3) := by decide +kernel
theorem dX3_chanceAsked_8 : decode cX3_chanceAsked 8 = .ok (.iload_n 1, 1) := by decide +kernel
theorem dX3_chanceAsked_9 : decode cX3_chanceAsked 9 = .ok (.iconst 4, 1) := by decide +kernel
theorem dX3_chanceAsked_10 : decode cX3_chanceAsked 10 = .ok (.imul, 1) := by decide +kernel
theorem dX3_chanceAsked_11 : decode cX3_chanceAsked 11 = .ok (.iload_n 2, 1) := by decide +kernel
theorem dX3_chanceAsked_12 : decode cX3_chanceAsked 12 = .ok (.iadd, 1) := by decide +kernel
theorem dX3_chanceAsked_13 : decode cX3_chanceAsked 13 = .ok (.iaload, 1) := by decide +kernel
theorem dX3_chanceAsked_14 : decode cX3_chanceAsked 14 = .ok (.iaload, 1) := by decide +kernel
theorem dX3_chanceAsked_15 : decode cX3_chanceAsked 15 = .ok (.ireturn, 1) := by decide +kernel
theorem dX3_houseBears_0 : decode cX3_houseBears 0 = .ok (.aload_n 0, 1) := by decide +kernel
theorem dX3_houseBears_1 : decode cX3_houseBears 1 = .ok (.getfield 38, 3) := by decide +kernel
theorem dX3_houseBears_4 : decode cX3_houseBears 4 = .ok (.aload_n 0, 1) := by decide +kernel
theorem dX3_houseBears_5 : decode cX3_houseBears 5 = .ok (.getfield 29, 3) := by decide +kernel
theorem dX3_houseBears_8 : decode cX3_houseBears 8 = .ok (.iload_n 1, 1) := by decide +kernel
theorem dX3_houseBears_9 : decode cX3_houseBears 9 = .ok (.iconst 4, 1) := by decide +kernel
theorem dX3_houseBears_10 : decode cX3_houseBears 10 = .ok (.imul, 1) := by decide +kernel
theorem dX3_houseBears_11 : decode cX3_houseBears 11 = .ok (.iload_n 2, 1) := by decide +kernel
theorem dX3_houseBears_12 : decode cX3_houseBears 12 = .ok (.iadd, 1) := by decide +kernel
theorem dX3_houseBears_13 : decode cX3_houseBears 13 = .ok (.iaload, 1) := by decide +kernel
theorem dX3_houseBears_14 : decode cX3_houseBears 14 = .ok (.iaload, 1) := by decide +kernel
theorem dX3_houseBears_15 : decode cX3_houseBears 15 = .ok (.ireturn, 1) := by decide +kernel
theorem dX3_reckonCost_0 : decode cX3_reckonCost 0 = .ok (.aload_n 0, 1) := by decide +kernel
theorem dX3_reckonCost_1 : decode cX3_reckonCost 1 = .ok (.iload_n 1, 1) := by decide +kernel
theorem dX3_reckonCost_2 : decode cX3_reckonCost 2 = .ok (.iload_n 2, 1) := by decide +kernel
theorem dX3_reckonCost_3 : decode cX3_reckonCost 3 = .ok (.iconst 0, 1) := by decide +kernel
theorem dX3_reckonCost_4 : decode cX3_reckonCost 4 = .ok (.invokevirtual 94, 3) := by decide +kernel
theorem dX3_reckonCost_7 : decode cX3_reckonCost 7 = .ok (.aload_n 0, 1) := by decide +kernel
theorem dX3_reckonCost_8 : decode cX3_reckonCost 8 = .ok (.iconst 0, 1) := by decide +kernel
theorem dX3_reckonCost_9 : decode cX3_reckonCost 9 = .ok (.iconst 0, 1) := by decide +kernel
theorem dX3_reckonCost_10 : decode cX3_reckonCost 10 = .ok (.invokevirtual 98, 3) := by decide +kernel
theorem dX3_reckonCost_13 : decode cX3_reckonCost 13 = .ok (.istore_n 3, 1) := by decide +kernel
theorem dX3_reckonCost_14 : decode cX3_reckonCost 14 = .ok (.iconst 0, 1) := by decide +kernel
theorem dX3_reckonCost_15 : decode cX3_reckonCost 15 = .ok (.istore 4, 2) := by decide +kernel
theorem dX3_reckonCost_17 : decode cX3_reckonCost 17 = .ok (.aload_n 0, 1) := by decide +kernel
theorem dX3_reckonCost_18 : decode cX3_reckonCost 18 = .ok (.getfield 47, 3) := by decide +kernel
theorem dX3_reckonCost_21 : decode cX3_reckonCost 21 = .ok (.getfield 64, 3) := by decide +kernel
theorem dX3_reckonCost_24 : decode cX3_reckonCost 24 = .ok (.ifCond .eq 62, 3) := by decide +kernel
theorem dX3_reckonCost_27 : decode cX3_reckonCost 27 = .ok (.aload_n 0, 1) := by decide +kernel
theorem dX3_reckonCost_28 : decode cX3_reckonCost 28 = .ok (.getfield 9, 3) := by decide +kernel
theorem dX3_reckonCost_31 : decode cX3_reckonCost 31 = .ok (.ifnonnull 55, 3) := by decide +kernel
theorem dX3_reckonCost_34 : decode cX3_reckonCost 34 = .ok (.aload_n 0, 1) := by decide +kernel
theorem dX3_reckonCost_35 : decode cX3_reckonCost 35 = .ok (.iload_n 1, 1) := by decide +kernel
theorem dX3_reckonCost_36 : decode cX3_reckonCost 36 = .ok (.iload_n 2, 1) := by decide +kernel
theorem dX3_reckonCost_37 : decode cX3_reckonCost 37 = .ok (.iconst 1, 1) := by decide +kernel
theorem dX3_reckonCost_38 : decode cX3_reckonCost 38 = .ok (.invokevirtual 94, 3) := by decide +kernel
theorem dX3_reckonCost_41 : decode cX3_reckonCost 41 = .ok (.aload_n 0, 1) := by decide +kernel
theorem dX3_reckonCost_42 : decode cX3_reckonCost 42 = .ok (.iconst 0, 1) := by decide +kernel
theorem dX3_reckonCost_43 : decode cX3_reckonCost 43 = .ok (.iconst 0, 1) := by decide +kernel
theorem dX3_reckonCost_44 : decode cX3_reckonCost 44 = .ok (.invokevirtual 98, 3) := by decide +kernel
theorem dX3_reckonCost_47 : decode cX3_reckonCost 47 = .ok (.aload_n 0, 1) := by decide +kernel
theorem dX3_reckonCost_48 : decode cX3_reckonCost 48 = .ok (.getfield 47, 3) := by decide +kernel
theorem dX3_reckonCost_51 : decode cX3_reckonCost 51 = .ok (.getfield 101, 3) := by decide +kernel
theorem dX3_reckonCost_54 : decode cX3_reckonCost 54 = .ok (.sipush 1000, 3) := by decide +kernel
theorem dX3_reckonCost_57 : decode cX3_reckonCost 57 = .ok (.imul, 1) := by decide +kernel
theorem dX3_reckonCost_58 : decode cX3_reckonCost 58 = .ok (.iadd, 1) := by decide +kernel
theorem dX3_reckonCost_59 : decode cX3_reckonCost 59 = .ok (.istore 5, 2) := by decide +kernel
theorem dX3_reckonCost_61 : decode cX3_reckonCost 61 = .ok (.iload 5, 2) := by decide +kernel
theorem dX3_reckonCost_63 : decode cX3_reckonCost 63 = .ok (.iload_n 3, 1) := by decide +kernel
theorem dX3_reckonCost_64 : decode cX3_reckonCost 64 = .ok (.if_icmp .ge 7, 3) := by decide +kernel
theorem dX3_reckonCost_67 : decode cX3_reckonCost 67 = .ok (.iconst 1, 1) := by decide +kernel
theorem dX3_reckonCost_68 : decode cX3_reckonCost 68 = .ok (.goto 4, 3) := by decide +kernel
theorem dX3_reckonCost_71 : decode cX3_reckonCost 71 = .ok (.iconst 0, 1) := by decide +kernel
theorem dX3_reckonCost_72 : decode cX3_reckonCost 72 = .ok (.istore 4, 2) := by decide +kernel
theorem dX3_reckonCost_74 : decode cX3_reckonCost 74 = .ok (.iload 4, 2) := by decide +kernel
theorem dX3_reckonCost_76 : decode cX3_reckonCost 76 = .ok (.ifCond .eq 8, 3) := by decide +kernel
theorem dX3_reckonCost_79 : decode cX3_reckonCost 79 = .ok (.iload 5, 2) := by decide +kernel
theorem dX3_reckonCost_81 : decode cX3_reckonCost 81 = .ok (.goto 4, 3) := by decide +kernel
theorem dX3_reckonCost_84 : decode cX3_reckonCost 84 = .ok (.iload_n 3, 1) := by decide +kernel
theorem dX3_reckonCost_85 : decode cX3_reckonCost 85 = .ok (.istore_n 3, 1) := by decide +kernel
theorem dX3_reckonCost_86 : decode cX3_reckonCost 86 = .ok (.aload_n 0, 1) := by decide +kernel
theorem dX3_reckonCost_87 : decode cX3_reckonCost 87 = .ok (.getfield 15, 3) := by decide +kernel
theorem dX3_reckonCost_90 : decode cX3_reckonCost 90 = .ok (.iload_n 1, 1) := by decide +kernel
theorem dX3_reckonCost_91 : decode cX3_reckonCost 91 = .ok (.bipush 10, 2) := by decide +kernel
theorem dX3_reckonCost_93 : decode cX3_reckonCost 93 = .ok (.imul, 1) := by decide +kernel
theorem dX3_reckonCost_94 : decode cX3_reckonCost 94 = .ok (.iload_n 2, 1) := by decide +kernel
theorem dX3_reckonCost_95 : decode cX3_reckonCost 95 = .ok (.iadd, 1) := by decide +kernel
theorem dX3_reckonCost_96 : decode cX3_reckonCost 96 = .ok (.aload_n 0, 1) := by decide +kernel
theorem dX3_reckonCost_97 : decode cX3_reckonCost 97 = .ok (.getfield 51, 3) := by decide +kernel
theorem dX3_reckonCost_100 : decode cX3_reckonCost 100 = .ok (.getfield 104, 3) := by decide +kernel
theorem dX3_reckonCost_103 : decode cX3_reckonCost 103 = .ok (.iload_n 2, 1) := by decide +kernel
theorem dX3_reckonCost_104 : decode cX3_reckonCost 104 = .ok (.iaload, 1) := by decide +kernel
theorem dX3_reckonCost_105 : decode cX3_reckonCost 105 = .ok (.sipush 1000, 3) := by decide +kernel
theorem dX3_reckonCost_108 : decode cX3_reckonCost 108 = .ok (.imul, 1) := by decide +kernel
theorem dX3_reckonCost_109 : decode cX3_reckonCost 109 = .ok (.iload_n 3, 1) := by decide +kernel
theorem dX3_reckonCost_110 : decode cX3_reckonCost 110 = .ok (.iadd, 1) := by decide +kernel
theorem dX3_reckonCost_111 : decode cX3_reckonCost 111 = .ok (.iastore, 1) := by decide +kernel
theorem dX3_reckonCost_112 : decode cX3_reckonCost 112 = .ok (.aload_n 0, 1) := by decide +kernel
theorem dX3_reckonCost_113 : decode cX3_reckonCost 113 = .ok (.getfield 19, 3) := by decide +kernel
theorem dX3_reckonCost_116 : decode cX3_reckonCost 116 = .ok (.iload_n 1, 1) := by decide +kernel
theorem dX3_reckonCost_117 : decode cX3_reckonCost 117 = .ok (.aload_n 0, 1) := by decide +kernel
theorem dX3_reckonCost_118 : decode cX3_reckonCost 118 = .ok (.getfield 19, 3) := by decide +kernel
theorem dX3_reckonCost_121 : decode cX3_reckonCost 121 = .ok (.iload_n 1, 1) := by decide +kernel
theorem dX3_reckonCost_122 : decode cX3_reckonCost 122 = .ok (.iaload, 1) := by decide +kernel
theorem dX3_reckonCost_123 : decode cX3_reckonCost 123 = .ok (.iconst 1, 1) := by decide +kernel
theorem dX3_reckonCost_124 : decode cX3_reckonCost 124 = .ok (.iload_n 2, 1) := by decide +kernel
theorem dX3_reckonCost_125 : decode cX3_reckonCost 125 = .ok (.ishl, 1) := by decide +kernel
theorem dX3_reckonCost_126 : decode cX3_reckonCost 126 = .ok (.iconst (-1), 1) := by decide +kernel
theorem dX3_reckonCost_127 : decode cX3_reckonCost 127 = .ok (.ixor, 1) := by decide +kernel
theorem dX3_reckonCost_128 : decode cX3_reckonCost 128 = .ok (.iand, 1) := by decide +kernel
theorem dX3_reckonCost_129 : decode cX3_reckonCost 129 = .ok (.iload 4, 2) := by decide +kernel
theorem dX3_reckonCost_131 : decode cX3_reckonCost 131 = .ok (.ifCond .eq 9, 3) := by decide +kernel
theorem dX3_reckonCost_134 : decode cX3_reckonCost 134 = .ok (.iconst 1, 1) := by decide +kernel
theorem dX3_reckonCost_135 : decode cX3_reckonCost 135 = .ok (.iload_n 2, 1) := by decide +kernel
theorem dX3_reckonCost_136 : decode cX3_reckonCost 136 = .ok (.ishl, 1) := by decide +kernel
theorem dX3_reckonCost_137 : decode cX3_reckonCost 137 = .ok (.goto 4, 3) := by decide +kernel
theorem dX3_reckonCost_140 : decode cX3_reckonCost 140 = .ok (.iconst 0, 1) := by decide +kernel
theorem dX3_reckonCost_141 : decode cX3_reckonCost 141 = .ok (.ior, 1) := by decide +kernel
theorem dX3_reckonCost_142 : decode cX3_reckonCost 142 = .ok (.iastore, 1) := by decide +kernel
theorem dX3_reckonCost_143 : decode cX3_reckonCost 143 = .ok (.return_, 1) := by decide +kernel
theorem dX3_sumScrapes_0 : decode cX3_sumScrapes 0 = .ok (.aload_n 0, 1) := by decide +kernel
theorem dX3_sumScrapes_1 : decode cX3_sumScrapes 1 = .ok (.iconst 0, 1) := by decide +kernel
theorem dX3_sumScrapes_2 : decode cX3_sumScrapes 2 = .ok (.putfield 41, 3) := by decide +kernel
theorem dX3_sumScrapes_5 : decode cX3_sumScrapes 5 = .ok (.aload_n 0, 1) := by decide +kernel
theorem dX3_sumScrapes_6 : decode cX3_sumScrapes 6 = .ok (.getfield 35, 3) := by decide +kernel
theorem dX3_sumScrapes_9 : decode cX3_sumScrapes 9 = .ok (.aload_n 0, 1) := by decide +kernel
theorem dX3_sumScrapes_10 : decode cX3_sumScrapes 10 = .ok (.getfield 47, 3) := by decide +kernel
theorem dX3_sumScrapes_13 : decode cX3_sumScrapes 13 = .ok (.getfield 88, 3) := by decide +kernel
theorem dX3_sumScrapes_16 : decode cX3_sumScrapes 16 = .ok (.iconst 0, 1) := by decide +kernel
theorem dX3_sumScrapes_17 : decode cX3_sumScrapes 17 = .ok (.iastore, 1) := by decide +kernel
theorem dX3_sumScrapes_18 : decode cX3_sumScrapes 18 = .ok (.aload_n 0, 1) := by decide +kernel
theorem dX3_sumScrapes_19 : decode cX3_sumScrapes 19 = .ok (.getfield 38, 3) := by decide +kernel
theorem dX3_sumScrapes_22 : decode cX3_sumScrapes 22 = .ok (.aload_n 0, 1) := by decide +kernel
theorem dX3_sumScrapes_23 : decode cX3_sumScrapes 23 = .ok (.getfield 47, 3) := by decide +kernel
theorem dX3_sumScrapes_26 : decode cX3_sumScrapes 26 = .ok (.getfield 88, 3) := by decide +kernel
theorem dX3_sumScrapes_29 : decode cX3_sumScrapes 29 = .ok (.iconst 0, 1) := by decide +kernel
theorem dX3_sumScrapes_30 : decode cX3_sumScrapes 30 = .ok (.iastore, 1) := by decide +kernel
theorem dX3_sumScrapes_31 : decode cX3_sumScrapes 31 = .ok (.aload_n 0, 1) := by decide +kernel
theorem dX3_sumScrapes_32 : decode cX3_sumScrapes 32 = .ok (.getfield 47, 3) := by decide +kernel
theorem dX3_sumScrapes_35 : decode cX3_sumScrapes 35 = .ok (.getfield 88, 3) := by decide +kernel
theorem dX3_sumScrapes_38 : decode cX3_sumScrapes 38 = .ok (.iconst 1, 1) := by decide +kernel
theorem dX3_sumScrapes_39 : decode cX3_sumScrapes 39 = .ok (.isub, 1) := by decide +kernel
theorem dX3_sumScrapes_40 : decode cX3_sumScrapes 40 = .ok (.istore_n 2, 1) := by decide +kernel
theorem dX3_sumScrapes_41 : decode cX3_sumScrapes 41 = .ok (.iload_n 2, 1) := by decide +kernel
theorem dX3_sumScrapes_42 : decode cX3_sumScrapes 42 = .ok (.ifCond .lt 114, 3) := by decide +kernel
theorem dX3_sumScrapes_45 : decode cX3_sumScrapes 45 = .ok (.aload_n 0, 1) := by decide +kernel
theorem dX3_sumScrapes_46 : decode cX3_sumScrapes 46 = .ok (.getfield 47, 3) := by decide +kernel
theorem dX3_sumScrapes_49 : decode cX3_sumScrapes 49 = .ok (.iload_n 2, 1) := by decide +kernel
theorem dX3_sumScrapes_50 : decode cX3_sumScrapes 50 = .ok (.iload_n 1, 1) := by decide +kernel
theorem dX3_sumScrapes_51 : decode cX3_sumScrapes 51 = .ok (.invokevirtual 107, 3) := by decide +kernel
theorem dX3_sumScrapes_54 : decode cX3_sumScrapes 54 = .ok (.istore_n 3, 1) := by decide +kernel
theorem dX3_sumScrapes_55 : decode cX3_sumScrapes 55 = .ok (.aload_n 0, 1) := by decide +kernel
theorem dX3_sumScrapes_56 : decode cX3_sumScrapes 56 = .ok (.getfield 47, 3) := by decide +kernel
theorem dX3_sumScrapes_59 : decode cX3_sumScrapes 59 = .ok (.getfield 91, 3) := by decide +kernel
theorem dX3_sumScrapes_62 : decode cX3_sumScrapes 62 = .ok (.iload_n 2, 1) := by decide +kernel
theorem dX3_sumScrapes_63 : decode cX3_sumScrapes 63 = .ok (.iaload, 1) := by decide +kernel
theorem dX3_sumScrapes_64 : decode cX3_sumScrapes 64 = .ok (.aload_n 0, 1) := by decide +kernel
theorem dX3_sumScrapes_65 : decode cX3_sumScrapes 65 = .ok (.getfield 51, 3) := by decide +kernel
theorem dX3_sumScrapes_68 : decode cX3_sumScrapes 68 = .ok (.aload_n 0, 1) := by decide +kernel
theorem dX3_sumScrapes_69 : decode cX3_sumScrapes 69 = .ok (.getfield 47, 3) := by decide +kernel
theorem dX3_sumScrapes_72 : decode cX3_sumScrapes 72 = .ok (.getfield 91, 3) := by decide +kernel
theorem dX3_sumScrapes_75 : decode cX3_sumScrapes 75 = .ok (.iload_n 2, 1) := by decide +kernel
theorem dX3_sumScrapes_76 : decode cX3_sumScrapes 76 = .ok (.iaload, 1) := by decide +kernel
theorem dX3_sumScrapes_77 : decode cX3_sumScrapes 77 = .ok (.invokevirtual 81, 3) := by decide +kernel
theorem dX3_sumScrapes_80 : decode cX3_sumScrapes 80 = .ok (.isub, 1) := by decide +kernel
theorem dX3_sumScrapes_81 : decode cX3_sumScrapes 81 = .ok (.istore 4, 2) := by decide +kernel
theorem dX3_sumScrapes_83 : decode cX3_sumScrapes 83 = .ok (.aload_n 0, 1) := by decide +kernel
theorem dX3_sumScrapes_84 : decode cX3_sumScrapes 84 = .ok (.getfield 32, 3) := by decide +kernel
theorem dX3_sumScrapes_87 : decode cX3_sumScrapes 87 = .ok (.iload_n 2, 1) := by decide +kernel
theorem dX3_sumScrapes_88 : decode cX3_sumScrapes 88 = .ok (.iload 4, 2) := by decide +kernel
theorem dX3_sumScrapes_90 : decode cX3_sumScrapes 90 = .ok (.sipush 1000, 3) := by decide +kernel
theorem dX3_sumScrapes_93 : decode cX3_sumScrapes 93 = .ok (.imul, 1) := by decide +kernel
theorem dX3_sumScrapes_94 : decode cX3_sumScrapes 94 = .ok (.iastore, 1) := by decide +kernel
theorem dX3_sumScrapes_95 : decode cX3_sumScrapes 95 = .ok (.aload_n 0, 1) := by decide +kernel
theorem dX3_sumScrapes_96 : decode cX3_sumScrapes 96 = .ok (.getfield 35, 3) := by decide +kernel
theorem dX3_sumScrapes_99 : decode cX3_sumScrapes 99 = .ok (.iload_n 2, 1) := by decide +kernel
theorem dX3_sumScrapes_100 : decode cX3_sumScrapes 100 = .ok (.aload_n 0, 1) := by decide +kernel
theorem dX3_sumScrapes_101 : decode cX3_sumScrapes 101 = .ok (.getfield 35, 3) := by decide +kernel
theorem dX3_sumScrapes_104 : decode cX3_sumScrapes 104 = .ok (.iload_n 2, 1) := by decide +kernel
theorem dX3_sumScrapes_105 : decode cX3_sumScrapes 105 = .ok (.iconst 1, 1) := by decide +kernel
theorem dX3_sumScrapes_106 : decode cX3_sumScrapes 106 = .ok (.iadd, 1) := by decide +kernel
theorem dX3_sumScrapes_107 : decode cX3_sumScrapes 107 = .ok (.iaload, 1) := by decide +kernel
theorem dX3_sumScrapes_108 : decode cX3_sumScrapes 108 = .ok (.iload_n 3, 1) := by decide +kernel
theorem dX3_sumScrapes_109 : decode cX3_sumScrapes 109 = .ok (.iadd, 1) := by decide +kernel
theorem dX3_sumScrapes_110 : decode cX3_sumScrapes 110 = .ok (.iastore, 1) := by decide +kernel
theorem dX3_sumScrapes_111 : decode cX3_sumScrapes 111 = .ok (.aload_n 0, 1) := by decide +kernel
theorem dX3_sumScrapes_112 : decode cX3_sumScrapes 112 = .ok (.getfield 38, 3) := by decide +kernel
theorem dX3_sumScrapes_115 : decode cX3_sumScrapes 115 = .ok (.iload_n 2, 1) := by decide +kernel
theorem dX3_sumScrapes_116 : decode cX3_sumScrapes 116 = .ok (.aload_n 0, 1) := by decide +kernel
theorem dX3_sumScrapes_117 : decode cX3_sumScrapes 117 = .ok (.getfield 38, 3) := by decide +kernel
theorem dX3_sumScrapes_120 : decode cX3_sumScrapes 120 = .ok (.iload_n 2, 1) := by decide +kernel
theorem dX3_sumScrapes_121 : decode cX3_sumScrapes 121 = .ok (.iconst 1, 1) := by decide +kernel
theorem dX3_sumScrapes_122 : decode cX3_sumScrapes 122 = .ok (.iadd, 1) := by decide +kernel
theorem dX3_sumScrapes_123 : decode cX3_sumScrapes 123 = .ok (.iaload, 1) := by decide +kernel
theorem dX3_sumScrapes_124 : decode cX3_sumScrapes 124 = .ok (.iload_n 3, 1) := by decide +kernel
theorem dX3_sumScrapes_125 : decode cX3_sumScrapes 125 = .ok (.iload 4, 2) := by decide +kernel
theorem dX3_sumScrapes_127 : decode cX3_sumScrapes 127 = .ok (.imul, 1) := by decide +kernel
theorem dX3_sumScrapes_128 : decode cX3_sumScrapes 128 = .ok (.iadd, 1) := by decide +kernel
theorem dX3_sumScrapes_129 : decode cX3_sumScrapes 129 = .ok (.iastore, 1) := by decide +kernel
theorem dX3_sumScrapes_130 : decode cX3_sumScrapes 130 = .ok (.aload_n 0, 1) := by decide +kernel
theorem dX3_sumScrapes_131 : decode cX3_sumScrapes 131 = .ok (.dup, 1) := by decide +kernel
theorem dX3_sumScrapes_132 : decode cX3_sumScrapes 132 = .ok (.getfield 41, 3) := by decide +kernel
theorem dX3_sumScrapes_135 : decode cX3_sumScrapes 135 = .ok (.iload_n 3, 1) := by decide +kernel
theorem dX3_sumScrapes_136 : decode cX3_sumScrapes 136 = .ok (.aload_n 0, 1) := by decide +kernel
theorem dX3_sumScrapes_137 : decode cX3_sumScrapes 137 = .ok (.getfield 47, 3) := by decide +kernel
theorem dX3_sumScrapes_140 : decode cX3_sumScrapes 140 = .ok (.getfield 91, 3) := by decide +kernel
theorem dX3_sumScrapes_143 : decode cX3_sumScrapes 143 = .ok (.iload_n 2, 1) := by decide +kernel
theorem dX3_sumScrapes_144 : decode cX3_sumScrapes 144 = .ok (.iaload, 1) := by decide +kernel
theorem dX3_sumScrapes_145 : decode cX3_sumScrapes 145 = .ok (.imul, 1) := by decide +kernel
theorem dX3_sumScrapes_146 : decode cX3_sumScrapes 146 = .ok (.iadd, 1) := by decide +kernel
theorem dX3_sumScrapes_147 : decode cX3_sumScrapes 147 = .ok (.putfield 41, 3) := by decide +kernel
theorem dX3_sumScrapes_150 : decode cX3_sumScrapes 150 = .ok (.iinc 2 (-1), 3) := by decide +kernel
theorem dX3_sumScrapes_153 : decode cX3_sumScrapes 153 = .ok (.goto (-112), 3) := by decide +kernel
theorem dX3_sumScrapes_156 : decode cX3_sumScrapes 156 = .ok (.return_, 1) := by decide +kernel
theorem dX3_costsLater_0 : decode cX3_costsLater 0 = .ok (.iload_n 2, 1) := by decide +kernel
theorem dX3_costsLater_1 : decode cX3_costsLater 1 = .ok (.iconst 3, 1) := by decide +kernel
theorem dX3_costsLater_2 : decode cX3_costsLater 2 = .ok (.if_icmp .ge 33, 3) := by decide +kernel
theorem dX3_costsLater_5 : decode cX3_costsLater 5 = .ok (.aload_n 0, 1) := by decide +kernel
theorem dX3_costsLater_6 : decode cX3_costsLater 6 = .ok (.getfield 26, 3) := by decide +kernel
theorem dX3_costsLater_9 : decode cX3_costsLater 9 = .ok (.iload_n 1, 1) := by decide +kernel
theorem dX3_costsLater_10 : decode cX3_costsLater 10 = .ok (.iconst 1, 1) := by decide +kernel
theorem dX3_costsLater_11 : decode cX3_costsLater 11 = .ok (.iadd, 1) := by decide +kernel
theorem dX3_costsLater_12 : decode cX3_costsLater 12 = .ok (.iconst 4, 1) := by decide +kernel
theorem dX3_costsLater_13 : decode cX3_costsLater 13 = .ok (.imul, 1) := by decide +kernel
theorem dX3_costsLater_14 : decode cX3_costsLater 14 = .ok (.iload_n 2, 1) := by decide +kernel
theorem dX3_costsLater_15 : decode cX3_costsLater 15 = .ok (.iadd, 1) := by decide +kernel
theorem dX3_costsLater_16 : decode cX3_costsLater 16 = .ok (.iconst 1, 1) := by decide +kernel
theorem dX3_costsLater_17 : decode cX3_costsLater 17 = .ok (.iadd, 1) := by decide +kernel
theorem dX3_costsLater_18 : decode cX3_costsLater 18 = .ok (.iaload, 1) := by decide +kernel
theorem dX3_costsLater_19 : decode cX3_costsLater 19 = .ok (.aload_n 0, 1) := by decide +kernel
theorem dX3_costsLater_20 : decode cX3_costsLater 20 = .ok (.getfield 26, 3) := by decide +kernel
theorem dX3_costsLater_23 : decode cX3_costsLater 23 = .ok (.iload_n 1, 1) := by decide +kernel
theorem dX3_costsLater_24 : decode cX3_costsLater 24 = .ok (.iconst 1, 1) := by decide +kernel
theorem dX3_costsLater_25 : decode cX3_costsLater 25 = .ok (.iadd, 1) := by decide +kernel
theorem dX3_costsLater_26 : decode cX3_costsLater 26 = .ok (.iconst 4, 1) := by decide +kernel
theorem dX3_costsLater_27 : decode cX3_costsLater 27 = .ok (.imul, 1) := by decide +kernel
theorem dX3_costsLater_28 : decode cX3_costsLater 28 = .ok (.iload_n 2, 1) := by decide +kernel
theorem dX3_costsLater_29 : decode cX3_costsLater 29 = .ok (.iadd, 1) := by decide +kernel
theorem dX3_costsLater_30 : decode cX3_costsLater 30 = .ok (.iaload, 1) := by decide +kernel
theorem dX3_costsLater_31 : decode cX3_costsLater 31 = .ok (.isub, 1) := by decide +kernel
theorem dX3_costsLater_32 : decode cX3_costsLater 32 = .ok (.goto 4, 3) := by decide +kernel
theorem dX3_costsLater_35 : decode cX3_costsLater 35 = .ok (.iconst 0, 1) := by decide +kernel
theorem dX3_costsLater_36 : decode cX3_costsLater 36 = .ok (.ireturn, 1) := by decide +kernel
theorem dX3_reckonMonth_0 : decode cX3_reckonMonth 0 = .ok (.aload_n 0, 1) := by decide +kernel
theorem dX3_reckonMonth_1 : decode cX3_reckonMonth 1 = .ok (.iload_n 1, 1) := by decide +kernel
theorem dX3_reckonMonth_2 : decode cX3_reckonMonth 2 = .ok (.iload_n 2, 1) := by decide +kernel
theorem dX3_reckonMonth_3 : decode cX3_reckonMonth 3 = .ok (.invokevirtual 85, 3) := by decide +kernel
theorem dX3_reckonMonth_6 : decode cX3_reckonMonth 6 = .ok (.istore_n 3, 1) := by decide +kernel
theorem dX3_reckonMonth_7 : decode cX3_reckonMonth 7 = .ok (.iconst 0, 1) := by decide +kernel
theorem dX3_reckonMonth_8 : decode cX3_reckonMonth 8 = .ok (.istore 4, 2) := by decide +kernel
theorem dX3_reckonMonth_10 : decode cX3_reckonMonth 10 = .ok (.aload_n 0, 1) := by decide +kernel
theorem dX3_reckonMonth_11 : decode cX3_reckonMonth 11 = .ok (.getfield 9, 3) := by decide +kernel
theorem dX3_reckonMonth_14 : decode cX3_reckonMonth 14 = .ok (.ifnonnull 32, 3) := by decide +kernel
theorem dX3_reckonMonth_17 : decode cX3_reckonMonth 17 = .ok (.iload 4, 2) := by decide +kernel
theorem dX3_reckonMonth_19 : decode cX3_reckonMonth 19 = .ok (.aload_n 0, 1) := by decide +kernel
theorem dX3_reckonMonth_20 : decode cX3_reckonMonth 20 = .ok (.getfield 47, 3) := by decide +kernel
theorem dX3_reckonMonth_23 : decode cX3_reckonMonth 23 = .ok (.getfield 88, 3) := by decide +kernel
theorem dX3_reckonMonth_26 : decode cX3_reckonMonth 26 = .ok (.if_icmp .ge 67, 3) := by decide +kernel
theorem dX3_reckonMonth_29 : decode cX3_reckonMonth 29 = .ok (.aload_n 0, 1) := by decide +kernel
theorem dX3_reckonMonth_30 : decode cX3_reckonMonth 30 = .ok (.getfield 32, 3) := by decide +kernel
theorem dX3_reckonMonth_33 : decode cX3_reckonMonth 33 = .ok (.iload 4, 2) := by decide +kernel
theorem dX3_reckonMonth_35 : decode cX3_reckonMonth 35 = .ok (.iaload, 1) := by decide +kernel
theorem dX3_reckonMonth_36 : decode cX3_reckonMonth 36 = .ok (.iload_n 3, 1) := by decide +kernel
theorem dX3_reckonMonth_37 : decode cX3_reckonMonth 37 = .ok (.if_icmp .gt 56, 3) := by decide +kernel
theorem dX3_reckonMonth_40 : decode cX3_reckonMonth 40 = .ok (.iinc 4 1, 3) := by decide +kernel
theorem dX3_reckonMonth_43 : decode cX3_reckonMonth 43 = .ok (.goto (-26), 3) := by decide +kernel
theorem dX3_reckonMonth_46 : decode cX3_reckonMonth 46 = .ok (.aload_n 0, 1) := by decide +kernel
theorem dX3_reckonMonth_47 : decode cX3_reckonMonth 47 = .ok (.getfield 9, 3) := by decide +kernel
theorem dX3_reckonMonth_50 : decode cX3_reckonMonth 50 = .ok (.aload_n 0, 1) := by decide +kernel
theorem dX3_reckonMonth_51 : decode cX3_reckonMonth 51 = .ok (.getfield 44, 3) := by decide +kernel
theorem dX3_reckonMonth_54 : decode cX3_reckonMonth 54 = .ok (.iload_n 1, 1) := by decide +kernel
theorem dX3_reckonMonth_55 : decode cX3_reckonMonth 55 = .ok (.invokevirtual 111, 3) := by decide +kernel
theorem dX3_reckonMonth_58 : decode cX3_reckonMonth 58 = .ok (.istore 5, 2) := by decide +kernel
theorem dX3_reckonMonth_60 : decode cX3_reckonMonth 60 = .ok (.iload 4, 2) := by decide +kernel
theorem dX3_reckonMonth_62 : decode cX3_reckonMonth 62 = .ok (.aload_n 0, 1) := by decide +kernel
theorem dX3_reckonMonth_63 : decode cX3_reckonMonth 63 = .ok (.getfield 47, 3) := by decide +kernel
theorem dX3_reckonMonth_66 : decode cX3_reckonMonth 66 = .ok (.getfield 88, 3) := by decide +kernel
theorem dX3_reckonMonth_69 : decode cX3_reckonMonth 69 = .ok (.if_icmp .ge 24, 3) := by decide +kernel
theorem dX3_reckonMonth_72 : decode cX3_reckonMonth 72 = .ok (.aload_n 0, 1) := by decide +kernel
theorem dX3_reckonMonth_73 : decode cX3_reckonMonth 73 = .ok (.getfield 47, 3) := by decide +kernel
theorem dX3_reckonMonth_76 : decode cX3_reckonMonth 76 = .ok (.getfield 91, 3) := by decide +kernel
theorem dX3_reckonMonth_79 : decode cX3_reckonMonth 79 = .ok (.iload 4, 2) := by decide +kernel
theorem dX3_reckonMonth_81 : decode cX3_reckonMonth 81 = .ok (.iaload, 1) := by decide +kernel
theorem dX3_reckonMonth_82 : decode cX3_reckonMonth 82 = .ok (.iload 5, 2) := by decide +kernel
theorem dX3_reckonMonth_84 : decode cX3_reckonMonth 84 = .ok (.if_icmp .ge 9, 3) := by decide +kernel
theorem dX3_reckonMonth_87 : decode cX3_reckonMonth 87 = .ok (.iinc 4 1, 3) := by decide +kernel
theorem dX3_reckonMonth_90 : decode cX3_reckonMonth 90 = .ok (.goto (-30), 3) := by decide +kernel
theorem dX3_reckonMonth_93 : decode cX3_reckonMonth 93 = .ok (.aload_n 0, 1) := by decide +kernel
theorem dX3_reckonMonth_94 : decode cX3_reckonMonth 94 = .ok (.getfield 29, 3) := by decide +kernel
theorem dX3_reckonMonth_97 : decode cX3_reckonMonth 97 = .ok (.iload_n 1, 1) := by decide +kernel
theorem dX3_reckonMonth_98 : decode cX3_reckonMonth 98 = .ok (.iconst 4, 1) := by decide +kernel
theorem dX3_reckonMonth_99 : decode cX3_reckonMonth 99 = .ok (.imul, 1) := by decide +kernel
theorem dX3_reckonMonth_100 : decode cX3_reckonMonth 100 = .ok (.iload_n 2, 1) := by decide +kernel
theorem dX3_reckonMonth_101 : decode cX3_reckonMonth 101 = .ok (.iadd, 1) := by decide +kernel
theorem dX3_reckonMonth_102 : decode cX3_reckonMonth 102 = .ok (.iload 4, 2) := by decide +kernel
theorem dX3_reckonMonth_104 : decode cX3_reckonMonth 104 = .ok (.iastore, 1) := by decide +kernel
theorem dX3_reckonMonth_105 : decode cX3_reckonMonth 105 = .ok (.aload_n 0, 1) := by decide +kernel
theorem dX3_reckonMonth_106 : decode cX3_reckonMonth 106 = .ok (.iload_n 1, 1) := by decide +kernel
theorem dX3_reckonMonth_107 : decode cX3_reckonMonth 107 = .ok (.iconst 1, 1) := by decide +kernel
theorem dX3_reckonMonth_108 : decode cX3_reckonMonth 108 = .ok (.iadd, 1) := by decide +kernel
theorem dX3_reckonMonth_109 : decode cX3_reckonMonth 109 = .ok (.iload_n 2, 1) := by decide +kernel
theorem dX3_reckonMonth_110 : decode cX3_reckonMonth 110 = .ok (.invokevirtual 98, 3) := by decide +kernel
theorem dX3_reckonMonth_113 : decode cX3_reckonMonth 113 = .ok (.i2l, 1) := by decide +kernel
theorem dX3_reckonMonth_114 : decode cX3_reckonMonth 114 = .ok (.aload_n 0, 1) := by decide +kernel
theorem dX3_reckonMonth_115 : decode cX3_reckonMonth 115 = .ok (.getfield 41, 3) := by decide +kernel
theorem dX3_reckonMonth_118 : decode cX3_reckonMonth 118 = .ok (.i2l, 1) := by decide +kernel
theorem dX3_reckonMonth_119 : decode cX3_reckonMonth 119 = .ok (.ladd, 1) := by decide +kernel
theorem dX3_reckonMonth_120 : decode cX3_reckonMonth 120 = .ok (.aload_n 0, 1) := by decide +kernel
theorem dX3_reckonMonth_121 : decode cX3_reckonMonth 121 = .ok (.getfield 38, 3) := by decide +kernel
theorem dX3_reckonMonth_124 : decode cX3_reckonMonth 124 = .ok (.iload 4, 2) := by decide +kernel
theorem dX3_reckonMonth_126 : decode cX3_reckonMonth 126 = .ok (.iaload, 1) := by decide +kernel
theorem dX3_reckonMonth_127 : decode cX3_reckonMonth 127 = .ok (.i2l, 1) := by decide +kernel
theorem dX3_reckonMonth_128 : decode cX3_reckonMonth 128 = .ok (.lsub, 1) := by decide +kernel
theorem dX3_reckonMonth_129 : decode cX3_reckonMonth 129 = .ok (.lstore 5, 2) := by decide +kernel
theorem dX3_reckonMonth_131 : decode cX3_reckonMonth 131 = .ok (.aload_n 0, 1) := by decide +kernel
theorem dX3_reckonMonth_132 : decode cX3_reckonMonth 132 = .ok (.getfield 26, 3) := by decide +kernel
theorem dX3_reckonMonth_135 : decode cX3_reckonMonth 135 = .ok (.iload_n 1, 1) := by decide +kernel
theorem dX3_reckonMonth_136 : decode cX3_reckonMonth 136 = .ok (.iconst 4, 1) := by decide +kernel
theorem dX3_reckonMonth_137 : decode cX3_reckonMonth 137 = .ok (.imul, 1) := by decide +kernel
theorem dX3_reckonMonth_138 : decode cX3_reckonMonth 138 = .ok (.iload_n 2, 1) := by decide +kernel
theorem dX3_reckonMonth_139 : decode cX3_reckonMonth 139 = .ok (.iadd, 1) := by decide +kernel
theorem dX3_reckonMonth_140 : decode cX3_reckonMonth 140 = .ok (.lload 5, 2) := by decide +kernel
theorem dX3_reckonMonth_142 : decode cX3_reckonMonth 142 = .ok (.ldc2_w 116, 3) := by decide +kernel
theorem dX3_reckonMonth_145 : decode cX3_reckonMonth 145 = .ok (.lmul, 1) := by decide +kernel
theorem dX3_reckonMonth_146 : decode cX3_reckonMonth 146 = .ok (.aload_n 0, 1) := by decide +kernel
theorem dX3_reckonMonth_147 : decode cX3_reckonMonth 147 = .ok (.getfield 35, 3) := by decide +kernel
theorem dX3_reckonMonth_150 : decode cX3_reckonMonth 150 = .ok (.iload 4, 2) := by decide +kernel
theorem dX3_reckonMonth_152 : decode cX3_reckonMonth 152 = .ok (.iaload, 1) := by decide +kernel
theorem dX3_reckonMonth_153 : decode cX3_reckonMonth 153 = .ok (.i2l, 1) := by decide +kernel
theorem dX3_reckonMonth_154 : decode cX3_reckonMonth 154 = .ok (.iload_n 3, 1) := by decide +kernel
theorem dX3_reckonMonth_155 : decode cX3_reckonMonth 155 = .ok (.i2l, 1) := by decide +kernel
theorem dX3_reckonMonth_156 : decode cX3_reckonMonth 156 = .ok (.lmul, 1) := by decide +kernel
theorem dX3_reckonMonth_157 : decode cX3_reckonMonth 157 = .ok (.ladd, 1) := by decide +kernel
theorem dX3_reckonMonth_158 : decode cX3_reckonMonth 158 = .ok (.ldc2_w 116, 3) := by decide +kernel
theorem dX3_reckonMonth_161 : decode cX3_reckonMonth 161 = .ok (.ldiv, 1) := by decide +kernel
theorem dX3_reckonMonth_162 : decode cX3_reckonMonth 162 = .ok (.l2i, 1) := by decide +kernel
theorem dX3_reckonMonth_163 : decode cX3_reckonMonth 163 = .ok (.iastore, 1) := by decide +kernel
theorem dX3_reckonMonth_164 : decode cX3_reckonMonth 164 = .ok (.return_, 1) := by decide +kernel
theorem dX4_init_0 : decode cX4_init 0 = .ok (.aload_n 0, 1) := by decide +kernel
theorem dX4_init_1 : decode cX4_init 1 = .ok (.invokespecial 3, 3) := by decide +kernel
theorem dX4_init_4 : decode cX4_init 4 = .ok (.aload_n 0, 1) := by decide +kernel
theorem dX4_init_5 : decode cX4_init 5 = .ok (.sipush 300, 3) := by decide +kernel
theorem dX4_init_8 : decode cX4_init 8 = .ok (.newarray .int, 2) := by decide +kernel
theorem dX4_init_10 : decode cX4_init 10 = .ok (.putfield 9, 3) := by decide +kernel
theorem dX4_init_13 : decode cX4_init 13 = .ok (.aload_n 0, 1) := by decide +kernel
theorem dX4_init_14 : decode cX4_init 14 = .ok (.iconst 0, 1) := by decide +kernel
theorem dX4_init_15 : decode cX4_init 15 = .ok (.putfield 15, 3) := by decide +kernel
theorem dX4_init_18 : decode cX4_init 18 = .ok (.aload_n 0, 1) := by decide +kernel
theorem dX4_init_19 : decode cX4_init 19 = .ok (.iconst 0, 1) := by decide +kernel
theorem dX4_init_20 : decode cX4_init 20 = .ok (.putfield 19, 3) := by decide +kernel
theorem dX4_init_23 : decode cX4_init 23 = .ok (.aload_n 0, 1) := by decide +kernel
theorem dX4_init_24 : decode cX4_init 24 = .ok (.iconst (-1), 1) := by decide +kernel
theorem dX4_init_25 : decode cX4_init 25 = .ok (.putfield 22, 3) := by decide +kernel
theorem dX4_init_28 : decode cX4_init 28 = .ok (.aload_n 0, 1) := by decide +kernel
theorem dX4_init_29 : decode cX4_init 29 = .ok (.iconst 0, 1) := by decide +kernel
theorem dX4_init_30 : decode cX4_init 30 = .ok (.putfield 25, 3) := by decide +kernel
theorem dX4_init_33 : decode cX4_init 33 = .ok (.aload_n 0, 1) := by decide +kernel
theorem dX4_init_34 : decode cX4_init 34 = .ok (.iconst 0, 1) := by decide +kernel
theorem dX4_init_35 : decode cX4_init 35 = .ok (.putfield 28, 3) := by decide +kernel
theorem dX4_init_38 : decode cX4_init 38 = .ok (.aload_n 0, 1) := by decide +kernel
theorem dX4_init_39 : decode cX4_init 39 = .ok (.iconst 0, 1) := by decide +kernel
theorem dX4_init_40 : decode cX4_init 40 = .ok (.putfield 31, 3) := by decide +kernel
theorem dX4_init_43 : decode cX4_init 43 = .ok (.aload_n 0, 1) := by decide +kernel
theorem dX4_init_44 : decode cX4_init 44 = .ok (.iconst 0, 1) := by decide +kernel
theorem dX4_init_45 : decode cX4_init 45 = .ok (.putfield 34, 3) := by decide +kernel
theorem dX4_init_48 : decode cX4_init 48 = .ok (.aload_n 0, 1) := by decide +kernel
theorem dX4_init_49 : decode cX4_init 49 = .ok (.iconst 0, 1) := by decide +kernel
theorem dX4_init_50 : decode cX4_init 50 = .ok (.putfield 37, 3) := by decide +kernel
theorem dX4_init_53 : decode cX4_init 53 = .ok (.return_, 1) := by decide +kernel
theorem dX4_add_0 : decode cX4_add 0 = .ok (.aload_n 0, 1) := by decide +kernel
theorem dX4_add_1 : decode cX4_add 1 = .ok (.getfield 15, 3) := by decide +kernel
theorem dX4_add_4 : decode cX4_add 4 = .ok (.sipush 300, 3) := by decide +kernel
theorem dX4_add_7 : decode cX4_add 7 = .ok (.if_icmp .ge 23, 3) := by decide +kernel
theorem dX4_add_10 : decode cX4_add 10 = .ok (.aload_n 0, 1) := by decide +kernel
theorem dX4_add_11 : decode cX4_add 11 = .ok (.getfield 9, 3) := by decide +kernel
theorem dX4_add_14 : decode cX4_add 14 = .ok (.aload_n 0, 1) := by decide +kernel
theorem dX4_add_15 : decode cX4_add 15 = .ok (.getfield 15, 3) := by decide +kernel
theorem dX4_add_18 : decode cX4_add 18 = .ok (.iload_n 1, 1) := by decide +kernel
theorem dX4_add_19 : decode cX4_add 19 = .ok (.iastore, 1) := by decide +kernel
theorem dX4_add_20 : decode cX4_add 20 = .ok (.aload_n 0, 1) := by decide +kernel
theorem dX4_add_21 : decode cX4_add 21 = .ok (.dup, 1) := by decide +kernel
theorem dX4_add_22 : decode cX4_add 22 = .ok (.getfield 15, 3) := by decide +kernel
theorem dX4_add_25 : decode cX4_add 25 = .ok (.iconst 1, 1) := by decide +kernel
theorem dX4_add_26 : decode cX4_add 26 = .ok (.iadd, 1) := by decide +kernel
theorem dX4_add_27 : decode cX4_add 27 = .ok (.putfield 15, 3) := by decide +kernel
theorem dX4_add_30 : decode cX4_add 30 = .ok (.return_, 1) := by decide +kernel
theorem dX4_open_0 : decode cX4_open 0 = .ok (.aload_n 0, 1) := by decide +kernel
theorem dX4_open_1 : decode cX4_open 1 = .ok (.iconst 0, 1) := by decide +kernel
theorem dX4_open_2 : decode cX4_open 2 = .ok (.putfield 19, 3) := by decide +kernel
theorem dX4_open_5 : decode cX4_open 5 = .ok (.aload_n 0, 1) := by decide +kernel
theorem dX4_open_6 : decode cX4_open 6 = .ok (.iconst (-1), 1) := by decide +kernel
theorem dX4_open_7 : decode cX4_open 7 = .ok (.putfield 22, 3) := by decide +kernel
theorem dX4_open_10 : decode cX4_open 10 = .ok (.aload_n 0, 1) := by decide +kernel
theorem dX4_open_11 : decode cX4_open 11 = .ok (.iconst 0, 1) := by decide +kernel
theorem dX4_open_12 : decode cX4_open 12 = .ok (.putfield 31, 3) := by decide +kernel
theorem dX4_open_15 : decode cX4_open 15 = .ok (.aload_n 0, 1) := by decide +kernel
theorem dX4_open_16 : decode cX4_open 16 = .ok (.invokevirtual 40, 3) := by decide +kernel
theorem dX4_open_19 : decode cX4_open 19 = .ok (.return_, 1) := by decide +kernel
theorem dX4_goesOn_0 : decode cX4_goesOn 0 = .ok (.aload_n 0, 1) := by decide +kernel
theorem dX4_goesOn_1 : decode cX4_goesOn 1 = .ok (.getfield 19, 3) := by decide +kernel
theorem dX4_goesOn_4 : decode cX4_goesOn 4 = .ok (.ifCond .ne 14, 3) := by decide +kernel
theorem dX4_goesOn_7 : decode cX4_goesOn 7 = .ok (.aload_n 0, 1) := by decide +kernel
theorem dX4_goesOn_8 : decode cX4_goesOn 8 = .ok (.getfield 25, 3) := by decide +kernel
theorem dX4_goesOn_11 : decode cX4_goesOn 11 = .ok (.ifCond .eq 7, 3) := by decide +kernel
theorem dX4_goesOn_14 : decode cX4_goesOn 14 = .ok (.iconst 1, 1) := by decide +kernel
theorem dX4_goesOn_15 : decode cX4_goesOn 15 = .ok (.goto 4, 3) := by decide +kernel
theorem dX4_goesOn_18 : decode cX4_goesOn 18 = .ok (.iconst 0, 1) := by decide +kernel
theorem dX4_goesOn_19 : decode cX4_goesOn 19 = .ok (.ireturn, 1) := by decide +kernel
theorem dX4_fail_0 : decode cX4_fail 0 = .ok (.aload_n 0, 1) := by decide +kernel
theorem dX4_fail_1 : decode cX4_fail 1 = .ok (.getfield 19, 3) := by decide +kernel
theorem dX4_fail_4 : decode cX4_fail 4 = .ok (.ifCond .ne 13, 3) := by decide +kernel
theorem dX4_fail_7 : decode cX4_fail 7 = .ok (.aload_n 0, 1) := by decide +kernel
theorem dX4_fail_8 : decode cX4_fail 8 = .ok (.iload_n 1, 1) := by decide +kernel
theorem dX4_fail_9 : decode cX4_fail 9 = .ok (.putfield 19, 3) := by decide +kernel
theorem dX4_fail_12 : decode cX4_fail 12 = .ok (.aload_n 0, 1) := by decide +kernel
theorem dX4_fail_13 : decode cX4_fail 13 = .ok (.iload_n 2, 1) := by decide +kernel
theorem dX4_fail_14 : decode cX4_fail 14 = .ok (.putfield 22, 3) := by decide +kernel
theorem dX4_fail_17 : decode cX4_fail 17 = .ok (.return_, 1) := by decide +kernel
theorem dX4_step_0 : decode cX4_step 0 = .ok (.aload_n 0, 1) := by decide +kernel
theorem dX4_step_1 : decode cX4_step 1 = .ok (.getfield 31, 3) := by decide +kernel
theorem dX4_step_4 : decode cX4_step 4 = .ok (.aload_n 0, 1) := by decide +kernel
theorem dX4_step_5 : decode cX4_step 5 = .ok (.getfield 15, 3) := by decide +kernel
theorem dX4_step_8 : decode cX4_step 8 = .ok (.if_icmp .ge 30, 3) := by decide +kernel
theorem dX4_step_11 : decode cX4_step 11 = .ok (.aload_n 0, 1) := by decide +kernel
theorem dX4_step_12 : decode cX4_step 12 = .ok (.getfield 9, 3) := by decide +kernel
theorem dX4_step_15 : decode cX4_step 15 = .ok (.aload_n 0, 1) := by decide +kernel
theorem dX4_step_16 : decode cX4_step 16 = .ok (.getfield 31, 3) := by decide +kernel
theorem dX4_step_19 : decode cX4_step 19 = .ok (.iaload, 1) := by decide +kernel
theorem dX4_step_20 : decode cX4_step 20 = .ok (.bipush 32, 2) := by decide +kernel
theorem dX4_step_22 : decode cX4_step 22 = .ok (.if_icmp .ne 16, 3) := by decide +kernel
theorem dX4_step_25 : decode cX4_step 25 = .ok (.aload_n 0, 1) := by decide +kernel
theorem dX4_step_26 : decode cX4_step 26 = .ok (.dup, 1) := by decide +kernel
theorem dX4_step_27 : decode cX4_step 27 = .ok (.getfield 31, 3) := by decide +kernel
theorem dX4_step_30 : decode cX4_step 30 = .ok (.iconst 1, 1) := by decide +kernel
theorem dX4_step_31 : decode cX4_step 31 = .ok (.iadd, 1) := by decide +kernel
theorem dX4_step_32 : decode cX4_step 32 = .ok (.putfield 31, 3) := by decide +kernel
theorem dX4_step_35 : decode cX4_step 35 = .ok (.goto (-35), 3) := by decide +kernel
theorem dX4_step_38 : decode cX4_step 38 = .ok (.aload_n 0, 1) := by decide +kernel
theorem dX4_step_39 : decode cX4_step 39 = .ok (.aload_n 0, 1) := by decide +kernel
theorem dX4_step_40 : decode cX4_step 40 = .ok (.getfield 31, 3) := by decide +kernel
theorem dX4_step_43 : decode cX4_step 43 = .ok (.putfield 28, 3) := by decide +kernel
theorem dX4_step_46 : decode cX4_step 46 = .ok (.aload_n 0, 1) := by decide +kernel
theorem dX4_step_47 : decode cX4_step 47 = .ok (.getfield 31, 3) := by decide +kernel
theorem dX4_step_50 : decode cX4_step 50 = .ok (.aload_n 0, 1) := by decide +kernel
theorem dX4_step_51 : decode cX4_step 51 = .ok (.getfield 15, 3) := by decide +kernel
theorem dX4_step_54 : decode cX4_step 54 = .ok (.if_icmp .lt 11, 3) := by decide +kernel
theorem dX4_step_57 : decode cX4_step 57 = .ok (.aload_n 0, 1) := by decide +kernel
theorem dX4_step_58 : decode cX4_step 58 = .ok (.iconst 0, 1) := by decide +kernel
theorem dX4_step_59 : decode cX4_step 59 = .ok (.putfield 25, 3) := by decide +kernel
theorem dX4_step_62 : decode cX4_step 62 = .ok (.goto 90, 3) := by decide +kernel
theorem dX4_step_65 : decode cX4_step 65 = .ok (.aload_n 0, 1) := by decide +kernel
theorem dX4_step_66 : decode cX4_step 66 = .ok (.getfield 9, 3) := by decide +kernel
theorem dX4_step_69 : decode cX4_step 69 = .ok (.aload_n 0, 1) := by decide +kernel
theorem dX4_step_70 : decode cX4_step 70 = .ok (.getfield 31, 3) := by decide +kernel
theorem dX4_step_73 : decode cX4_step 73 = .ok (.iaload, 1) := by decide +kernel
theorem dX4_step_74 : decode cX4_step 74 = .ok (.invokestatic 43, 3) := by decide +kernel
theorem dX4_step_77 : decode cX4_step 77 = .ok (.ifCond .eq 15, 3) := by decide +kernel
theorem dX4_step_80 : decode cX4_step 80 = .ok (.aload_n 0, 1) := by decide +kernel
theorem dX4_step_81 : decode cX4_step 81 = .ok (.iconst 1, 1) := by decide +kernel
theorem dX4_step_82 : decode cX4_step 82 = .ok (.putfield 25, 3) := by decide +kernel
theorem dX4_step_85 : decode cX4_step 85 = .ok (.aload_n 0, 1) := by decide +kernel
theorem dX4_step_86 : decode cX4_step 86 = .ok (.invokevirtual 47, 3) := by decide +kernel
theorem dX4_step_89 : decode cX4_step 89 = .ok (.goto 63, 3) := by decide +kernel
theorem dX4_step_92 : decode cX4_step 92 = .ok (.aload_n 0, 1) := by decide +kernel
theorem dX4_step_93 : decode cX4_step 93 = .ok (.getfield 9, 3) := by decide +kernel
theorem dX4_step_96 : decode cX4_step 96 = .ok (.aload_n 0, 1) := by decide +kernel
theorem dX4_step_97 : decode cX4_step 97 = .ok (.getfield 31, 3) := by decide +kernel
theorem dX4_step_100 : decode cX4_step 100 = .ok (.iaload, 1) := by decide +kernel
theorem dX4_step_101 : decode cX4_step 101 = .ok (.invokestatic 50, 3) := by decide +kernel
theorem dX4_step_104 : decode cX4_step 104 = .ok (.ifCond .eq 15, 3) := by decide +kernel
theorem dX4_step_107 : decode cX4_step 107 = .ok (.aload_n 0, 1) := by decide +kernel
theorem dX4_step_108 : decode cX4_step 108 = .ok (.iconst 2, 1) := by decide +kernel
theorem dX4_step_109 : decode cX4_step 109 = .ok (.putfield 25, 3) := by decide +kernel
theorem dX4_step_112 : decode cX4_step 112 = .ok (.aload_n 0, 1) := by decide +kernel
theorem dX4_step_113 : decode cX4_step 113 = .ok (.invokevirtual 53, 3) := by decide +kernel
theorem dX4_step_116 : decode cX4_step 116 = .ok (.goto 36, 3) := by decide +kernel
theorem dX4_step_119 : decode cX4_step 119 = .ok (.aload_n 0, 1) := by decide +kernel
theorem dX4_step_120 : decode cX4_step 120 = .ok (.aload_n 0, 1) := by decide +kernel
theorem dX4_step_121 : decode cX4_step 121 = .ok (.getfield 9, 3) := by decide +kernel
theorem dX4_step_124 : decode cX4_step 124 = .ok (.aload_n 0, 1) := by decide +kernel
theorem dX4_step_125 : decode cX4_step 125 = .ok (.getfield 31, 3) := by decide +kernel
theorem dX4_step_128 : decode cX4_step 128 = .ok (.iaload, 1) := by decide +kernel
theorem dX4_step_129 : decode cX4_step 129 = .ok (.bipush 59, 2) := by decide +kernel
theorem dX4_step_131 : decode cX4_step 131 = .ok (.if_icmp .ne 7, 3) := by decide +kernel
theorem dX4_step_134 : decode cX4_step 134 = .ok (.iconst 3, 1) := by decide +kernel
theorem dX4_step_135 : decode cX4_step 135 = .ok (.goto 4, 3) := by decide +kernel
theorem dX4_step_138 : decode cX4_step 138 = .ok (.iconst 4, 1) := by decide +kernel
theorem dX4_step_139 : decode cX4_step 139 = .ok (.putfield 25, 3) := by decide +kernel
theorem dX4_step_142 : decode cX4_step 142 = .ok (.aload_n 0, 1) := by decide +kernel
theorem dX4_step_143 : decode cX4_step 143 = .ok (.dup, 1) := by decide +kernel
theorem dX4_step_144 : decode cX4_step 144 = .ok (.getfield 31, 3) := by decide +kernel
theorem dX4_step_147 : decode cX4_step 147 = .ok (.iconst 1, 1) := by decide +kernel
theorem dX4_step_148 : decode cX4_step 148 = .ok (.iadd, 1) := by decide +kernel
theorem dX4_step_149 : decode cX4_step 149 = .ok (.putfield 31, 3) := by decide +kernel
theorem dX4_step_152 : decode cX4_step 152 = .ok (.return_, 1) := by decide +kernel
theorem dX4_isWord_0 : decode cX4_isWord 0 = .ok (.aload_n 0, 1) := by decide +kernel
theorem dX4_isWord_1 : decode cX4_isWord 1 = .ok (.getfield 25, 3) := by decide +kernel
theorem dX4_isWord_4 : decode cX4_isWord 4 = .ok (.iconst 1, 1) := by decide +kernel
theorem dX4_isWord_5 : decode cX4_isWord 5 = .ok (.if_icmp .ne 19, 3) := by decide +kernel
theorem dX4_isWord_8 : decode cX4_isWord 8 = .ok (.aload_n 0, 1) := by decide +kernel
theorem dX4_isWord_9 : decode cX4_isWord 9 = .ok (.getfield 31, 3) := by decide +kernel
theorem dX4_isWord_12 : decode cX4_isWord 12 = .ok (.aload_n 0, 1) := by decide +kernel
theorem dX4_isWord_13 : decode cX4_isWord 13 = .ok (.getfield 28, 3) := by decide +kernel
theorem dX4_isWord_16 : decode cX4_isWord 16 = .ok (.isub, 1) := by decide +kernel
theorem dX4_isWord_17 : decode cX4_isWord 17 = .ok (.aload_n 1, 1) := by decide +kernel
theorem dX4_isWord_18 : decode cX4_isWord 18 = .ok (.invokevirtual 56, 3) := by decide +kernel
theorem dX4_isWord_21 : decode cX4_isWord 21 = .ok (.if_icmp .eq 5, 3) := by decide +kernel
theorem dX4_isWord_24 : decode cX4_isWord 24 = .ok (.iconst 0, 1) := by decide +kernel
theorem dX4_isWord_25 : decode cX4_isWord 25 = .ok (.ireturn, 1) := by decide +kernel
theorem dX4_isWord_26 : decode cX4_isWord 26 = .ok (.iconst 0, 1) := by decide +kernel
theorem dX4_isWord_27 : decode cX4_isWord 27 = .ok (.istore_n 2, 1) := by decide +kernel
theorem dX4_isWord_28 : decode cX4_isWord 28 = .ok (.iload_n 2, 1) := by decide +kernel
theorem dX4_isWord_29 : decode cX4_isWord 29 = .ok (.aload_n 1, 1) := by decide +kernel
theorem dX4_isWord_30 : decode cX4_isWord 30 = .ok (.invokevirtual 56, 3) := by decide +kernel
theorem dX4_isWord_33 : decode cX4_isWord 33 = .ok (.if_icmp .ge 30, 3) := by decide +kernel
theorem dX4_isWord_36 : decode cX4_isWord 36 = .ok (.aload_n 0, 1) := by decide +kernel
theorem dX4_isWord_37 : decode cX4_isWord 37 = .ok (.getfield 9, 3) := by decide +kernel
theorem dX4_isWord_40 : decode cX4_isWord 40 = .ok (.aload_n 0, 1) := by decide +kernel
theorem dX4_isWord_41 : decode cX4_isWord 41 = .ok (.getfield 28, 3) := by decide +kernel
theorem dX4_isWord_44 : decode cX4_isWord 44 = .ok (.iload_n 2, 1) := by decide +kernel
theorem dX4_isWord_45 : decode cX4_isWord 45 = .ok (.iadd, 1) := by decide +kernel
theorem dX4_isWord_46 : decode cX4_isWord 46 = .ok (.iaload, 1) := by decide +kernel
theorem dX4_isWord_47 : decode cX4_isWord 47 = .ok (.aload_n 1, 1) := by decide +kernel
theorem dX4_isWord_48 : decode cX4_isWord 48 = .ok (.iload_n 2, 1) := by decide +kernel
theorem dX4_isWord_49 : decode cX4_isWord 49 = .ok (.invokevirtual 61, 3) := by decide +kernel
theorem dX4_isWord_52 : decode cX4_isWord 52 = .ok (.if_icmp .eq 5, 3) := by decide +kernel
theorem dX4_isWord_55 : decode cX4_isWord 55 = .ok (.iconst 0, 1) := by decide +kernel
theorem dX4_isWord_56 : decode cX4_isWord 56 = .ok (.ireturn, 1) := by decide +kernel
theorem dX4_isWord_57 : decode cX4_isWord 57 = .ok (.iinc 2 1, 3) := by decide +kernel
theorem dX4_isWord_60 : decode cX4_isWord 60 = .ok (.goto (-32), 3) := by decide +kernel
theorem dX4_isWord_63 : decode cX4_isWord 63 = .ok (.iconst 1, 1) := by decide +kernel
theorem dX4_isWord_64 : decode cX4_isWord 64 = .ok (.ireturn, 1) := by decide +kernel
theorem dX4_number_0 : decode cX4_number 0 = .ok (.aload_n 0, 1) := by decide +kernel
theorem dX4_number_1 : decode cX4_number 1 = .ok (.getfield 25, 3) := by decide +kernel
theorem dX4_number_4 : decode cX4_number 4 = .ok (.iconst 2, 1) := by decide +kernel
theorem dX4_number_5 : decode cX4_number 5 = .ok (.if_icmp .eq 15, 3) := by decide +kernel
theorem dX4_number_8 : decode cX4_number 8 = .ok (.aload_n 0, 1) := by decide +kernel
theorem dX4_number_9 : decode cX4_number 9 = .ok (.iconst 1, 1) := by decide +kernel
theorem dX4_number_10 : decode cX4_number 10 = .ok (.aload_n 0, 1) := by decide +kernel
theorem dX4_number_11 : decode cX4_number 11 = .ok (.getfield 28, 3) := by decide +kernel
theorem dX4_number_14 : decode cX4_number 14 = .ok (.invokevirtual 65, 3) := by decide +kernel
theorem dX4_number_17 : decode cX4_number 17 = .ok (.goto 32, 3) := by decide +kernel
theorem dX4_number_20 : decode cX4_number 20 = .ok (.aload_n 0, 1) := by decide +kernel
theorem dX4_number_21 : decode cX4_number 21 = .ok (.getfield 34, 3) := by decide +kernel
theorem dX4_number_24 : decode cX4_number 24 = .ok (.iconst 3, 1) := by decide +kernel
theorem dX4_number_25 : decode cX4_number 25 = .ok (.if_icmp .gt 15, 3) := by decide +kernel
theorem dX4_number_28 : decode cX4_number 28 = .ok (.aload_n 0, 1) := by decide +kernel
theorem dX4_number_29 : decode cX4_number 29 = .ok (.getfield 37, 3) := by decide +kernel
theorem dX4_number_32 : decode cX4_number 32 = .ok (.iload_n 1, 1) := by decide +kernel
theorem dX4_number_33 : decode cX4_number 33 = .ok (.iload_n 2, 1) := by decide +kernel
theorem dX4_number_34 : decode cX4_number 34 = .ok (.invokestatic 69, 3) := by decide +kernel
theorem dX4_number_37 : decode cX4_number 37 = .ok (.ifCond .eq 12, 3) := by decide +kernel
theorem dX4_number_40 : decode cX4_number 40 = .ok (.aload_n 0, 1) := by decide +kernel
theorem dX4_number_41 : decode cX4_number 41 = .ok (.iconst 2, 1) := by decide +kernel
theorem dX4_number_42 : decode cX4_number 42 = .ok (.aload_n 0, 1) := by decide +kernel
theorem dX4_number_43 : decode cX4_number 43 = .ok (.getfield 28, 3) := by decide +kernel
theorem dX4_number_46 : decode cX4_number 46 = .ok (.invokevirtual 65, 3) := by decide +kernel
theorem dX4_number_49 : decode cX4_number 49 = .ok (.aload_n 0, 1) := by decide +kernel
theorem dX4_number_50 : decode cX4_number 50 = .ok (.getfield 19, 3) := by decide +kernel
theorem dX4_number_53 : decode cX4_number 53 = .ok (.ifCond .eq 5, 3) := by decide +kernel
theorem dX4_number_56 : decode cX4_number 56 = .ok (.iload_n 1, 1) := by decide +kernel
theorem dX4_number_57 : decode cX4_number 57 = .ok (.ireturn, 1) := by decide +kernel
theorem dX4_number_58 : decode cX4_number 58 = .ok (.aload_n 0, 1) := by decide +kernel
theorem dX4_number_59 : decode cX4_number 59 = .ok (.getfield 37, 3) := by decide +kernel
theorem dX4_number_62 : decode cX4_number 62 = .ok (.istore_n 3, 1) := by decide +kernel
theorem dX4_number_63 : decode cX4_number 63 = .ok (.aload_n 0, 1) := by decide +kernel
theorem dX4_number_64 : decode cX4_number 64 = .ok (.invokevirtual 40, 3) := by decide +kernel
theorem dX4_number_67 : decode cX4_number 67 = .ok (.iload_n 3, 1) := by decide +kernel
theorem dX4_number_68 : decode cX4_number 68 = .ok (.ireturn, 1) := by decide +kernel
theorem dX4_closeClause_0 : decode cX4_closeClause 0 = .ok (.aload_n 0, 1) := by decide +kernel
theorem dX4_closeClause_1 : decode cX4_closeClause 1 = .ok (.getfield 25, 3) := by decide +kernel
theorem dX4_closeClause_4 : decode cX4_closeClause 4 = .ok (.iconst 3, 1) := by decide +kernel
theorem dX4_closeClause_5 : decode cX4_closeClause 5 = .ok (.if_icmp .eq 12, 3) := by decide +kernel
theorem dX4_closeClause_8 : decode cX4_closeClause 8 = .ok (.aload_n 0, 1) := by decide +kernel
theorem dX4_closeClause_9 : decode cX4_closeClause 9 = .ok (.iconst 1, 1) := by decide +kernel
theorem dX4_closeClause_10 : decode cX4_closeClause 10 = .ok (.aload_n 0, 1) := by decide +kernel
theorem dX4_closeClause_11 : decode cX4_closeClause 11 = .ok (.getfield 28, 3) := by decide +kernel
theorem dX4_closeClause_14 : decode cX4_closeClause 14 = .ok (.invokevirtual 65, 3) := by decide +kernel
theorem dX4_closeClause_17 : decode cX4_closeClause 17 = .ok (.aload_n 0, 1) := by decide +kernel
theorem dX4_closeClause_18 : decode cX4_closeClause 18 = .ok (.getfield 19, 3) := by decide +kernel
theorem dX4_closeClause_21 : decode cX4_closeClause 21 = .ok (.ifCond .ne 7, 3) := by decide +kernel
theorem dX4_closeClause_24 : decode cX4_closeClause 24 = .ok (.aload_n 0, 1) := by decide +kernel
theorem dX4_closeClause_25 : decode cX4_closeClause 25 = .ok (.invokevirtual 40, 3) := by decide +kernel
theorem dX4_closeClause_28 : decode cX4_closeClause 28 = .ok (.return_, 1) := by decide +kernel
theorem dX4_passLetters_0 : decode cX4_passLetters 0 = .ok (.aload_n 0, 1) := by decide +kernel
theorem dX4_passLetters_1 : decode cX4_passLetters 1 = .ok (.getfield 31, 3) := by decide +kernel
theorem dX4_passLetters_4 : decode cX4_passLetters 4 = .ok (.aload_n 0, 1) := by decide +kernel
theorem dX4_passLetters_5 : decode cX4_passLetters 5 = .ok (.getfield 15, 3) := by decide +kernel
theorem dX4_passLetters_8 : decode cX4_passLetters 8 = .ok (.if_icmp .ge 31, 3) := by decide +kernel
theorem dX4_passLetters_11 : decode cX4_passLetters 11 = .ok (.aload_n 0, 1) := by decide +kernel
theorem dX4_passLetters_12 : decode cX4_passLetters 12 = .ok (.getfield 9, 3) := by decide +kernel
theorem dX4_passLetters_15 : decode cX4_passLetters 15 = .ok (.aload_n 0, 1) := by decide +kernel
theorem dX4_passLetters_16 : decode cX4_passLetters 16 = .ok (.getfield 31, 3) := by decide +kernel
theorem dX4_passLetters_19 : decode cX4_passLetters 19 = .ok (.iaload, 1) := by decide +kernel
theorem dX4_passLetters_20 : decode cX4_passLetters 20 = .ok (.invokestatic 43, 3) := by decide +kernel
theorem dX4_passLetters_23 : decode cX4_passLetters 23 = .ok (.ifCond .eq 16, 3) := by decide +kernel
theorem dX4_passLetters_26 : decode cX4_passLetters 26 = .ok (.aload_n 0, 1) := by decide +kernel
theorem dX4_passLetters_27 : decode cX4_passLetters 27 = .ok (.dup, 1) := by decide +kernel
theorem dX4_passLetters_28 : decode cX4_passLetters 28 = .ok (.getfield 31, 3) := by decide +kernel
theorem dX4_passLetters_31 : decode cX4_passLetters 31 = .ok (.iconst 1, 1) := by decide +kernel
theorem dX4_passLetters_32 : decode cX4_passLetters 32 = .ok (.iadd, 1) := by decide +kernel
theorem dX4_passLetters_33 : decode cX4_passLetters 33 = .ok (.putfield 31, 3) := by decide +kernel
theorem dX4_passLetters_36 : decode cX4_passLetters 36 = .ok (.goto (-36), 3) := by decide +kernel
theorem dX4_passLetters_39 : decode cX4_passLetters 39 = .ok (.return_, 1) := by decide +kernel
theorem dX4_passFigures_0 : decode cX4_passFigures 0 = .ok (.aload_n 0, 1) := by decide +kernel
theorem dX4_passFigures_1 : decode cX4_passFigures 1 = .ok (.iconst 0, 1) := by decide +kernel
theorem dX4_passFigures_2 : decode cX4_passFigures 2 = .ok (.putfield 34, 3) := by decide +kernel
theorem dX4_passFigures_5 : decode cX4_passFigures 5 = .ok (.aload_n 0, 1) := by decide +kernel
theorem dX4_passFigures_6 : decode cX4_passFigures 6 = .ok (.iconst 0, 1) := by decide +kernel
theorem dX4_passFigures_7 : decode cX4_passFigures 7 = .ok (.putfield 37, 3) := by decide +kernel
theorem dX4_passFigures_10 : decode cX4_passFigures 10 = .ok (.aload_n 0, 1) := by decide +kernel
theorem dX4_passFigures_11 : decode cX4_passFigures 11 = .ok (.getfield 31, 3) := by decide +kernel
theorem dX4_passFigures_14 : decode cX4_passFigures 14 = .ok (.aload_n 0, 1) := by decide +kernel
theorem dX4_passFigures_15 : decode cX4_passFigures 15 = .ok (.getfield 15, 3) := by decide +kernel
theorem dX4_passFigures_18 : decode cX4_passFigures 18 = .ok (.if_icmp .ge 80, 3) := by decide +kernel
theorem dX4_passFigures_21 : decode cX4_passFigures 21 = .ok (.aload_n 0, 1) := by decide +kernel
theorem dX4_passFigures_22 : decode cX4_passFigures 22 = .ok (.getfield 9, 3) := by decide +kernel
theorem dX4_passFigures_25 : decode cX4_passFigures 25 = .ok (.aload_n 0, 1) := by decide +kernel
theorem dX4_passFigures_26 : decode cX4_passFigures 26 = .ok (.getfield 31, 3) := by decide +kernel
theorem dX4_passFigures_29 : decode cX4_passFigures 29 = .ok (.iaload, 1) := by decide +kernel
theorem dX4_passFigures_30 : decode cX4_passFigures 30 = .ok (.invokestatic 50, 3) := by decide +kernel
theorem dX4_passFigures_33 : decode cX4_passFigures 33 = .ok (.ifCond .eq 65, 3) := by decide +kernel
theorem dX4_passFigures_36 : decode cX4_passFigures 36 = .ok (.aload_n 0, 1) := by decide +kernel
theorem dX4_passFigures_37 : decode cX4_passFigures 37 = .ok (.dup, 1) := by decide +kernel
theorem dX4_passFigures_38 : decode cX4_passFigures 38 = .ok (.getfield 34, 3) := by decide +kernel
theorem dX4_passFigures_41 : decode cX4_passFigures 41 = .ok (.iconst 1, 1) := by decide +kernel
theorem dX4_passFigures_42 : decode cX4_passFigures 42 = .ok (.iadd, 1) := by decide +kernel
theorem dX4_passFigures_43 : decode cX4_passFigures 43 = .ok (.putfield 34, 3) := by decide +kernel
theorem dX4_passFigures_46 : decode cX4_passFigures 46 = .ok (.aload_n 0, 1) := by decide +kernel
theorem dX4_passFigures_47 : decode cX4_passFigures 47 = .ok (.aload_n 0, 1) := by decide +kernel
theorem dX4_passFigures_48 : decode cX4_passFigures 48 = .ok (.getfield 34, 3) := by decide +kernel
theorem dX4_passFigures_51 : decode cX4_passFigures 51 = .ok (.iconst 3, 1) := by decide +kernel
theorem dX4_passFigures_52 : decode cX4_passFigures 52 = .ok (.if_icmp .le 10, 3) := by decide +kernel
theorem dX4_passFigures_55 : decode cX4_passFigures 55 = .ok (.aload_n 0, 1) := by decide +kernel
theorem dX4_passFigures_56 : decode cX4_passFigures 56 = .ok (.getfield 37, 3) := by decide +kernel
theorem dX4_passFigures_59 : decode cX4_passFigures 59 = .ok (.goto 23, 3) := by decide +kernel
theorem dX4_passFigures_62 : decode cX4_passFigures 62 = .ok (.aload_n 0, 1) := by decide +kernel
theorem dX4_passFigures_63 : decode cX4_passFigures 63 = .ok (.getfield 37, 3) := by decide +kernel
theorem dX4_passFigures_66 : decode cX4_passFigures 66 = .ok (.bipush 10, 2) := by decide +kernel
theorem dX4_passFigures_68 : decode cX4_passFigures 68 = .ok (.imul, 1) := by decide +kernel
theorem dX4_passFigures_69 : decode cX4_passFigures 69 = .ok (.aload_n 0, 1) := by decide +kernel
theorem dX4_passFigures_70 : decode cX4_passFigures 70 = .ok (.getfield 9, 3) := by decide +kernel
theorem dX4_passFigures_73 : decode cX4_passFigures 73 = .ok (.aload_n 0, 1) := by decide +kernel
theorem dX4_passFigures_74 : decode cX4_passFigures 74 = .ok (.getfield 31, 3) := by decide +kernel
theorem dX4_passFigures_77 : decode cX4_passFigures 77 = .ok (.iaload, 1) := by decide +kernel
theorem dX4_passFigures_78 : decode cX4_passFigures 78 = .ok (.iadd, 1) := by decide +kernel
theorem dX4_passFigures_79 : decode cX4_passFigures 79 = .ok (.bipush 48, 2) := by decide +kernel
theorem dX4_passFigures_81 : decode cX4_passFigures 81 = .ok (.isub, 1) := by decide +kernel
theorem dX4_passFigures_82 : decode cX4_passFigures 82 = .ok (.putfield 37, 3) := by decide +kernel
theorem dX4_passFigures_85 : decode cX4_passFigures 85 = .ok (.aload_n 0, 1) := by decide +kernel
theorem dX4_passFigures_86 : decode cX4_passFigures 86 = .ok (.dup, 1) := by decide +kernel
theorem dX4_passFigures_87 : decode cX4_passFigures 87 = .ok (.getfield 31, 3) := by decide +kernel
theorem dX4_passFigures_90 : decode cX4_passFigures 90 = .ok (.iconst 1, 1) := by decide +kernel
theorem dX4_passFigures_91 : decode cX4_passFigures 91 = .ok (.iadd, 1) := by decide +kernel
theorem dX4_passFigures_92 : decode cX4_passFigures 92 = .ok (.putfield 31, 3) := by decide +kernel
theorem dX4_passFigures_95 : decode cX4_passFigures 95 = .ok (.goto (-85), 3) := by decide +kernel
theorem dX4_passFigures_98 : decode cX4_passFigures 98 = .ok (.return_, 1) := by decide +kernel
theorem dX4_isLetter_0 : decode cX4_isLetter 0 = .ok (.iload_n 0, 1) := by decide +kernel
theorem dX4_isLetter_1 : decode cX4_isLetter 1 = .ok (.bipush 97, 2) := by decide +kernel
theorem dX4_isLetter_3 : decode cX4_isLetter 3 = .ok (.if_icmp .lt 13, 3) := by decide +kernel
theorem dX4_isLetter_6 : decode cX4_isLetter 6 = .ok (.iload_n 0, 1) := by decide +kernel
theorem dX4_isLetter_7 : decode cX4_isLetter 7 = .ok (.bipush 122, 2) := by decide +kernel
theorem dX4_isLetter_9 : decode cX4_isLetter 9 = .ok (.if_icmp .gt 7, 3) := by decide +kernel
theorem dX4_isLetter_12 : decode cX4_isLetter 12 = .ok (.iconst 1, 1) := by decide +kernel
theorem dX4_isLetter_13 : decode cX4_isLetter 13 = .ok (.goto 4, 3) := by decide +kernel
theorem dX4_isLetter_16 : decode cX4_isLetter 16 = .ok (.iconst 0, 1) := by decide +kernel
theorem dX4_isLetter_17 : decode cX4_isLetter 17 = .ok (.ireturn, 1) := by decide +kernel
theorem dX4_isFigure_0 : decode cX4_isFigure 0 = .ok (.iload_n 0, 1) := by decide +kernel
theorem dX4_isFigure_1 : decode cX4_isFigure 1 = .ok (.bipush 48, 2) := by decide +kernel
theorem dX4_isFigure_3 : decode cX4_isFigure 3 = .ok (.if_icmp .lt 13, 3) := by decide +kernel
theorem dX4_isFigure_6 : decode cX4_isFigure 6 = .ok (.iload_n 0, 1) := by decide +kernel
theorem dX4_isFigure_7 : decode cX4_isFigure 7 = .ok (.bipush 57, 2) := by decide +kernel
theorem dX4_isFigure_9 : decode cX4_isFigure 9 = .ok (.if_icmp .gt 7, 3) := by decide +kernel
theorem dX4_isFigure_12 : decode cX4_isFigure 12 = .ok (.iconst 1, 1) := by decide +kernel
theorem dX4_isFigure_13 : decode cX4_isFigure 13 = .ok (.goto 4, 3) := by decide +kernel
theorem dX4_isFigure_16 : decode cX4_isFigure 16 = .ok (.iconst 0, 1) := by decide +kernel
theorem dX4_isFigure_17 : decode cX4_isFigure 17 = .ok (.ireturn, 1) := by decide +kernel
theorem dX5_init_0 : decode cX5_init 0 = .ok (.aload_n 0, 1) := by decide +kernel
theorem dX5_init_1 : decode cX5_init 1 = .ok (.invokespecial 3, 3) := by decide +kernel
theorem dX5_init_4 : decode cX5_init 4 = .ok (.aload_n 0, 1) := by decide +kernel
theorem dX5_init_5 : decode cX5_init 5 = .ok (.bipush 6, 2) := by decide +kernel
theorem dX5_init_7 : decode cX5_init 7 = .ok (.newarray .int, 2) := by decide +kernel
theorem dX5_init_9 : decode cX5_init 9 = .ok (.putfield 9, 3) := by decide +kernel
theorem dX5_init_12 : decode cX5_init 12 = .ok (.aload_n 0, 1) := by decide +kernel
theorem dX5_init_13 : decode cX5_init 13 = .ok (.bipush 6, 2) := by decide +kernel
theorem dX5_init_15 : decode cX5_init 15 = .ok (.newarray .int, 2) := by decide +kernel
theorem dX5_init_17 : decode cX5_init 17 = .ok (.putfield 15, 3) := by decide +kernel
theorem dX5_init_20 : decode cX5_init 20 = .ok (.aload_n 0, 1) := by decide +kernel
theorem dX5_init_21 : decode cX5_init 21 = .ok (.bipush 6, 2) := by decide +kernel
theorem dX5_init_23 : decode cX5_init 23 = .ok (.newarray .int, 2) := by decide +kernel
theorem dX5_init_25 : decode cX5_init 25 = .ok (.putfield 18, 3) := by decide +kernel
theorem dX5_init_28 : decode cX5_init 28 = .ok (.aload_n 0, 1) := by decide +kernel
theorem dX5_init_29 : decode cX5_init 29 = .ok (.bipush 6, 2) := by decide +kernel
theorem dX5_init_31 : decode cX5_init 31 = .ok (.newarray .int, 2) := by decide +kernel
theorem dX5_init_33 : decode cX5_init 33 = .ok (.putfield 21, 3) := by decide +kernel
theorem dX5_init_36 : decode cX5_init 36 = .ok (.aload_n 0, 1) := by decide +kernel
theorem dX5_init_37 : decode cX5_init 37 = .ok (.bipush 6, 2) := by decide +kernel
theorem dX5_init_39 : decode cX5_init 39 = .ok (.newarray .int, 2) := by decide +kernel
theorem dX5_init_41 : decode cX5_init 41 = .ok (.putfield 24, 3) := by decide +kernel
theorem dX5_init_44 : decode cX5_init 44 = .ok (.aload_n 0, 1) := by decide +kernel
theorem dX5_init_45 : decode cX5_init 45 = .ok (.iconst 0, 1) := by decide +kernel
theorem dX5_init_46 : decode cX5_init 46 = .ok (.putfield 27, 3) := by decide +kernel
theorem dX5_init_49 : decode cX5_init 49 = .ok (.return_, 1) := by decide +kernel
theorem dX5_barOn_0 : decode cX5_barOn 0 = .ok (.iconst 0, 1) := by decide +kernel
theorem dX5_barOn_1 : decode cX5_barOn 1 = .ok (.istore_n 3, 1) := by decide +kernel
theorem dX5_barOn_2 : decode cX5_barOn 2 = .ok (.iload_n 3, 1) := by decide +kernel
theorem dX5_barOn_3 : decode cX5_barOn 3 = .ok (.aload_n 0, 1) := by decide +kernel
theorem dX5_barOn_4 : decode cX5_barOn 4 = .ok (.getfield 27, 3) := by decide +kernel
theorem dX5_barOn_7 : decode cX5_barOn 7 = .ok (.if_icmp .ge 68, 3) := by decide +kernel
theorem dX5_barOn_10 : decode cX5_barOn 10 = .ok (.iload_n 1, 1) := by decide +kernel
theorem dX5_barOn_11 : decode cX5_barOn 11 = .ok (.aload_n 0, 1) := by decide +kernel
theorem dX5_barOn_12 : decode cX5_barOn 12 = .ok (.getfield 15, 3) := by decide +kernel
theorem dX5_barOn_15 : decode cX5_barOn 15 = .ok (.iload_n 3, 1) := by decide +kernel
theorem dX5_barOn_16 : decode cX5_barOn 16 = .ok (.iaload, 1) := by decide +kernel
theorem dX5_barOn_17 : decode cX5_barOn 17 = .ok (.if_icmp .lt 17, 3) := by decide +kernel
theorem dX5_barOn_20 : decode cX5_barOn 20 = .ok (.iload_n 1, 1) := by decide +kernel
theorem dX5_barOn_21 : decode cX5_barOn 21 = .ok (.aload_n 0, 1) := by decide +kernel
theorem dX5_barOn_22 : decode cX5_barOn 22 = .ok (.getfield 18, 3) := by decide +kernel
theorem dX5_barOn_25 : decode cX5_barOn 25 = .ok (.iload_n 3, 1) := by decide +kernel
theorem dX5_barOn_26 : decode cX5_barOn 26 = .ok (.iaload, 1) := by decide +kernel
theorem dX5_barOn_27 : decode cX5_barOn 27 = .ok (.if_icmp .gt 7, 3) := by decide +kernel
theorem dX5_barOn_30 : decode cX5_barOn 30 = .ok (.iconst 1, 1) := by decide +kernel
theorem dX5_barOn_31 : decode cX5_barOn 31 = .ok (.goto 4, 3) := by decide +kernel
theorem dX5_barOn_34 : decode cX5_barOn 34 = .ok (.iconst 0, 1) := by decide +kernel
theorem dX5_barOn_35 : decode cX5_barOn 35 = .ok (.istore 4, 2) := by decide +kernel
theorem dX5_barOn_37 : decode cX5_barOn 37 = .ok (.iload 4, 2) := by decide +kernel
theorem dX5_barOn_39 : decode cX5_barOn 39 = .ok (.ifCond .eq 30, 3) := by decide +kernel
theorem dX5_barOn_42 : decode cX5_barOn 42 = .ok (.iload_n 2, 1) := by decide +kernel
theorem dX5_barOn_43 : decode cX5_barOn 43 = .ok (.aload_n 0, 1) := by decide +kernel
theorem dX5_barOn_44 : decode cX5_barOn 44 = .ok (.getfield 21, 3) := by decide +kernel
theorem dX5_barOn_47 : decode cX5_barOn 47 = .ok (.iload_n 3, 1) := by decide +kernel
theorem dX5_barOn_48 : decode cX5_barOn 48 = .ok (.iaload, 1) := by decide +kernel
theorem dX5_barOn_49 : decode cX5_barOn 49 = .ok (.if_icmp .lt 20, 3) := by decide +kernel
theorem dX5_barOn_52 : decode cX5_barOn 52 = .ok (.iload_n 2, 1) := by decide +kernel
theorem dX5_barOn_53 : decode cX5_barOn 53 = .ok (.aload_n 0, 1) := by decide +kernel
theorem dX5_barOn_54 : decode cX5_barOn 54 = .ok (.getfield 24, 3) := by decide +kernel
theorem dX5_barOn_57 : decode cX5_barOn 57 = .ok (.iload_n 3, 1) := by decide +kernel
theorem dX5_barOn_58 : decode cX5_barOn 58 = .ok (.iaload, 1) := by decide +kernel
theorem dX5_barOn_59 : decode cX5_barOn 59 = .ok (.if_icmp .gt 10, 3) := by decide +kernel
theorem dX5_barOn_62 : decode cX5_barOn 62 = .ok (.aload_n 0, 1) := by decide +kernel
theorem dX5_barOn_63 : decode cX5_barOn 63 = .ok (.getfield 9, 3) := by decide +kernel
theorem dX5_barOn_66 : decode cX5_barOn 66 = .ok (.iload_n 3, 1) := by decide +kernel
theorem dX5_barOn_67 : decode cX5_barOn 67 = .ok (.iaload, 1) := by decide +kernel
theorem dX5_barOn_68 : decode cX5_barOn 68 = .ok (.ireturn, 1) := by decide +kernel
theorem dX5_barOn_69 : decode cX5_barOn 69 = .ok (.iinc 3 1, 3) := by decide +kernel
theorem dX5_barOn_72 : decode cX5_barOn 72 = .ok (.goto (-70), 3) := by decide +kernel
theorem dX5_barOn_75 : decode cX5_barOn 75 = .ok (.iconst 0, 1) := by decide +kernel
theorem dX5_barOn_76 : decode cX5_barOn 76 = .ok (.ireturn, 1) := by decide +kernel
theorem dX5_readFrom_0 : decode cX5_readFrom 0 = .ok (.aload_n 0, 1) := by decide +kernel
theorem dX5_readFrom_1 : decode cX5_readFrom 1 = .ok (.iconst 0, 1) := by decide +kernel
theorem dX5_readFrom_2 : decode cX5_readFrom 2 = .ok (.putfield 27, 3) := by decide +kernel
theorem dX5_readFrom_5 : decode cX5_readFrom 5 = .ok (.aload_n 1, 1) := by decide +kernel
theorem dX5_readFrom_6 : decode cX5_readFrom 6 = .ok (.invokevirtual 31, 3) := by decide +kernel
theorem dX5_readFrom_9 : decode cX5_readFrom 9 = .ok (.iconst 0, 1) := by decide +kernel
theorem dX5_readFrom_10 : decode cX5_readFrom 10 = .ok (.istore_n 2, 1) := by decide +kernel
theorem dX5_readFrom_11 : decode cX5_readFrom 11 = .ok (.iload_n 2, 1) := by decide +kernel
theorem dX5_readFrom_12 : decode cX5_readFrom 12 = .ok (.sipush 300, 3) := by decide +kernel
theorem dX5_readFrom_15 : decode cX5_readFrom 15 = .ok (.if_icmp .ge 63, 3) := by decide +kernel
theorem dX5_readFrom_18 : decode cX5_readFrom 18 = .ok (.aload_n 1, 1) := by decide +kernel
theorem dX5_readFrom_19 : decode cX5_readFrom 19 = .ok (.invokevirtual 36, 3) := by decide +kernel
theorem dX5_readFrom_22 : decode cX5_readFrom 22 = .ok (.ifCond .eq 56, 3) := by decide +kernel
theorem dX5_readFrom_25 : decode cX5_readFrom 25 = .ok (.aload_n 1, 1) := by decide +kernel
theorem dX5_readFrom_26 : decode cX5_readFrom 26 = .ok (.ldc 40, 2) := by decide +kernel
theorem dX5_readFrom_28 : decode cX5_readFrom 28 = .ok (.invokevirtual 42, 3) := by decide +kernel
theorem dX5_readFrom_31 : decode cX5_readFrom 31 = .ok (.ifCond .ne 15, 3) := by decide +kernel
theorem dX5_readFrom_34 : decode cX5_readFrom 34 = .ok (.aload_n 1, 1) := by decide +kernel
theorem dX5_readFrom_35 : decode cX5_readFrom 35 = .ok (.iconst 1, 1) := by decide +kernel
theorem dX5_readFrom_36 : decode cX5_readFrom 36 = .ok (.aload_n 1, 1) := by decide +kernel
theorem dX5_readFrom_37 : decode cX5_readFrom 37 = .ok (.getfield 46, 3) := by decide +kernel
theorem dX5_readFrom_40 : decode cX5_readFrom 40 = .ok (.invokevirtual 49, 3) := by decide +kernel
theorem dX5_readFrom_43 : decode cX5_readFrom 43 = .ok (.goto 29, 3) := by decide +kernel
theorem dX5_readFrom_46 : decode cX5_readFrom 46 = .ok (.aload_n 0, 1) := by decide +kernel
theorem dX5_readFrom_47 : decode cX5_readFrom 47 = .ok (.getfield 27, 3) := by decide +kernel
theorem dX5_readFrom_50 : decode cX5_readFrom 50 = .ok (.bipush 6, 2) := by decide +kernel
theorem dX5_readFrom_52 : decode cX5_readFrom 52 = .ok (.if_icmp .lt 15, 3) := by decide +kernel
theorem dX5_readFrom_55 : decode cX5_readFrom 55 = .ok (.aload_n 1, 1) := by decide +kernel
theorem dX5_readFrom_56 : decode cX5_readFrom 56 = .ok (.iconst 3, 1) := by decide +kernel
theorem dX5_readFrom_57 : decode cX5_readFrom 57 = .ok (.aload_n 1, 1) := by decide +kernel
theorem dX5_readFrom_58 : decode cX5_readFrom 58 = .ok (.getfield 46, 3) := by decide +kernel
theorem dX5_readFrom_61 : decode cX5_readFrom 61 = .ok (.invokevirtual 49, 3) := by decide +kernel
theorem dX5_readFrom_64 : decode cX5_readFrom 64 = .ok (.goto 8, 3) := by decide +kernel
theorem dX5_readFrom_67 : decode cX5_readFrom 67 = .ok (.aload_n 0, 1) := by decide +kernel
theorem dX5_readFrom_68 : decode cX5_readFrom 68 = .ok (.aload_n 1, 1) := by decide +kernel
theorem dX5_readFrom_69 : decode cX5_readFrom 69 = .ok (.invokevirtual 53, 3) := by decide +kernel
theorem dX5_readFrom_72 : decode cX5_readFrom 72 = .ok (.iinc 2 1, 3) := by decide +kernel
theorem dX5_readFrom_75 : decode cX5_readFrom 75 = .ok (.goto (-64), 3) := by decide +kernel
theorem dX5_readFrom_78 : decode cX5_readFrom 78 = .ok (.return_, 1) := by decide +kernel
theorem dX5_readBar_0 : decode cX5_readBar 0 = .ok (.aload_n 1, 1) := by decide +kernel
theorem dX5_readBar_1 : decode cX5_readBar 1 = .ok (.invokevirtual 57, 3) := by decide +kernel
theorem dX5_readBar_4 : decode cX5_readBar 4 = .ok (.aload_n 0, 1) := by decide +kernel
theorem dX5_readBar_5 : decode cX5_readBar 5 = .ok (.getfield 9, 3) := by decide +kernel
theorem dX5_readBar_8 : decode cX5_readBar 8 = .ok (.aload_n 0, 1) := by decide +kernel
theorem dX5_readBar_9 : decode cX5_readBar 9 = .ok (.getfield 27, 3) := by decide +kernel
theorem dX5_readBar_12 : decode cX5_readBar 12 = .ok (.aload_n 1, 1) := by decide +kernel
theorem dX5_readBar_13 : decode cX5_readBar 13 = .ok (.iconst 0, 1) := by decide +kernel
theorem dX5_readBar_14 : decode cX5_readBar 14 = .ok (.sipush 999, 3) := by decide +kernel
theorem dX5_readBar_17 : decode cX5_readBar 17 = .ok (.invokevirtual 60, 3) := by decide +kernel
theorem dX5_readBar_20 : decode cX5_readBar 20 = .ok (.iastore, 1) := by decide +kernel
theorem dX5_readBar_21 : decode cX5_readBar 21 = .ok (.aload_n 0, 1) := by decide +kernel
theorem dX5_readBar_22 : decode cX5_readBar 22 = .ok (.getfield 15, 3) := by decide +kernel
theorem dX5_readBar_25 : decode cX5_readBar 25 = .ok (.aload_n 0, 1) := by decide +kernel
theorem dX5_readBar_26 : decode cX5_readBar 26 = .ok (.getfield 27, 3) := by decide +kernel
theorem dX5_readBar_29 : decode cX5_readBar 29 = .ok (.iconst 0, 1) := by decide +kernel
theorem dX5_readBar_30 : decode cX5_readBar 30 = .ok (.iastore, 1) := by decide +kernel
theorem dX5_readBar_31 : decode cX5_readBar 31 = .ok (.aload_n 0, 1) := by decide +kernel
theorem dX5_readBar_32 : decode cX5_readBar 32 = .ok (.getfield 18, 3) := by decide +kernel
theorem dX5_readBar_35 : decode cX5_readBar 35 = .ok (.aload_n 0, 1) := by decide +kernel
theorem dX5_readBar_36 : decode cX5_readBar 36 = .ok (.getfield 27, 3) := by decide +kernel
theorem dX5_readBar_39 : decode cX5_readBar 39 = .ok (.bipush 9, 2) := by decide +kernel
theorem dX5_readBar_41 : decode cX5_readBar 41 = .ok (.iastore, 1) := by decide +kernel
theorem dX5_readBar_42 : decode cX5_readBar 42 = .ok (.aload_n 0, 1) := by decide +kernel
theorem dX5_readBar_43 : decode cX5_readBar 43 = .ok (.getfield 21, 3) := by decide +kernel
theorem dX5_readBar_46 : decode cX5_readBar 46 = .ok (.aload_n 0, 1) := by decide +kernel
theorem dX5_readBar_47 : decode cX5_readBar 47 = .ok (.getfield 27, 3) := by decide +kernel
theorem dX5_readBar_50 : decode cX5_readBar 50 = .ok (.iconst 0, 1) := by decide +kernel
theorem dX5_readBar_51 : decode cX5_readBar 51 = .ok (.iastore, 1) := by decide +kernel
theorem dX5_readBar_52 : decode cX5_readBar 52 = .ok (.aload_n 0, 1) := by decide +kernel
theorem dX5_readBar_53 : decode cX5_readBar 53 = .ok (.getfield 24, 3) := by decide +kernel
theorem dX5_readBar_56 : decode cX5_readBar 56 = .ok (.aload_n 0, 1) := by decide +kernel
theorem dX5_readBar_57 : decode cX5_readBar 57 = .ok (.getfield 27, 3) := by decide +kernel
theorem dX5_readBar_60 : decode cX5_readBar 60 = .ok (.bipush 11, 2) := by decide +kernel
theorem dX5_readBar_62 : decode cX5_readBar 62 = .ok (.iastore, 1) := by decide +kernel
theorem dX5_readBar_63 : decode cX5_readBar 63 = .ok (.aload_n 1, 1) := by decide +kernel
theorem dX5_readBar_64 : decode cX5_readBar 64 = .ok (.ldc 64, 2) := by decide +kernel
theorem dX5_readBar_66 : decode cX5_readBar 66 = .ok (.invokevirtual 42, 3) := by decide +kernel
theorem dX5_readBar_69 : decode cX5_readBar 69 = .ok (.ifCond .eq 47, 3) := by decide +kernel
theorem dX5_readBar_72 : decode cX5_readBar 72 = .ok (.aload_n 1, 1) := by decide +kernel
theorem dX5_readBar_73 : decode cX5_readBar 73 = .ok (.invokevirtual 57, 3) := by decide +kernel
theorem dX5_readBar_76 : decode cX5_readBar 76 = .ok (.aload_n 0, 1) := by decide +kernel
theorem dX5_readBar_77 : decode cX5_readBar 77 = .ok (.getfield 15, 3) := by decide +kernel
theorem dX5_readBar_80 : decode cX5_readBar 80 = .ok (.aload_n 0, 1) := by decide +kernel
theorem dX5_readBar_81 : decode cX5_readBar 81 = .ok (.getfield 27, 3) := by decide +kernel
theorem dX5_readBar_84 : decode cX5_readBar 84 = .ok (.aload_n 1, 1) := by decide +kernel
theorem dX5_readBar_85 : decode cX5_readBar 85 = .ok (.iconst 0, 1) := by decide +kernel
theorem dX5_readBar_86 : decode cX5_readBar 86 = .ok (.bipush 9, 2) := by decide +kernel
theorem dX5_readBar_88 : decode cX5_readBar 88 = .ok (.invokevirtual 60, 3) := by decide +kernel
theorem dX5_readBar_91 : decode cX5_readBar 91 = .ok (.iastore, 1) := by decide +kernel
theorem dX5_readBar_92 : decode cX5_readBar 92 = .ok (.aload_n 0, 1) := by decide +kernel
theorem dX5_readBar_93 : decode cX5_readBar 93 = .ok (.getfield 18, 3) := by decide +kernel
theorem dX5_readBar_96 : decode cX5_readBar 96 = .ok (.aload_n 0, 1) := by decide +kernel
theorem dX5_readBar_97 : decode cX5_readBar 97 = .ok (.getfield 27, 3) := by decide +kernel
theorem dX5_readBar_100 : decode cX5_readBar 100 = .ok (.aload_n 1, 1) := by decide +kernel
theorem dX5_readBar_101 : decode cX5_readBar 101 = .ok (.aload_n 0, 1) := by decide +kernel
theorem dX5_readBar_102 : decode cX5_readBar 102 = .ok (.getfield 15, 3) := by decide +kernel
theorem dX5_readBar_105 : decode cX5_readBar 105 = .ok (.aload_n 0, 1) := by decide +kernel
theorem dX5_readBar_106 : decode cX5_readBar 106 = .ok (.getfield 27, 3) := by decide +kernel
theorem dX5_readBar_109 : decode cX5_readBar 109 = .ok (.iaload, 1) := by decide +kernel
theorem dX5_readBar_110 : decode cX5_readBar 110 = .ok (.bipush 9, 2) := by decide +kernel
theorem dX5_readBar_112 : decode cX5_readBar 112 = .ok (.invokevirtual 60, 3) := by decide +kernel
theorem dX5_readBar_115 : decode cX5_readBar 115 = .ok (.iastore, 1) := by decide +kernel
theorem dX5_readBar_116 : decode cX5_readBar 116 = .ok (.aload_n 1, 1) := by decide +kernel
theorem dX5_readBar_117 : decode cX5_readBar 117 = .ok (.ldc 66, 2) := by decide +kernel
theorem dX5_readBar_119 : decode cX5_readBar 119 = .ok (.invokevirtual 42, 3) := by decide +kernel
theorem dX5_readBar_122 : decode cX5_readBar 122 = .ok (.ifCond .eq 47, 3) := by decide +kernel
theorem dX5_readBar_125 : decode cX5_readBar 125 = .ok (.aload_n 1, 1) := by decide +kernel
theorem dX5_readBar_126 : decode cX5_readBar 126 = .ok (.invokevirtual 57, 3) := by decide +kernel
theorem dX5_readBar_129 : decode cX5_readBar 129 = .ok (.aload_n 0, 1) := by decide +kernel
theorem dX5_readBar_130 : decode cX5_readBar 130 = .ok (.getfield 21, 3) := by decide +kernel
theorem dX5_readBar_133 : decode cX5_readBar 133 = .ok (.aload_n 0, 1) := by decide +kernel
theorem dX5_readBar_134 : decode cX5_readBar 134 = .ok (.getfield 27, 3) := by decide +kernel
theorem dX5_readBar_137 : decode cX5_readBar 137 = .ok (.aload_n 1, 1) := by decide +kernel
theorem dX5_readBar_138 : decode cX5_readBar 138 = .ok (.iconst 0, 1) := by decide +kernel
theorem dX5_readBar_139 : decode cX5_readBar 139 = .ok (.bipush 11, 2) := by decide +kernel
theorem dX5_readBar_141 : decode cX5_readBar 141 = .ok (.invokevirtual 60, 3) := by decide +kernel
theorem dX5_readBar_144 : decode cX5_readBar 144 = .ok (.iastore, 1) := by decide +kernel
theorem dX5_readBar_145 : decode cX5_readBar 145 = .ok (.aload_n 0, 1) := by decide +kernel
theorem dX5_readBar_146 : decode cX5_readBar 146 = .ok (.getfield 24, 3) := by decide +kernel
theorem dX5_readBar_149 : decode cX5_readBar 149 = .ok (.aload_n 0, 1) := by decide +kernel
theorem dX5_readBar_150 : decode cX5_readBar 150 = .ok (.getfield 27, 3) := by decide +kernel
theorem dX5_readBar_153 : decode cX5_readBar 153 = .ok (.aload_n 1, 1) := by decide +kernel
theorem dX5_readBar_154 : decode cX5_readBar 154 = .ok (.aload_n 0, 1) := by decide +kernel
theorem dX5_readBar_155 : decode cX5_readBar 155 = .ok (.getfield 21, 3) := by decide +kernel
theorem dX5_readBar_158 : decode cX5_readBar 158 = .ok (.aload_n 0, 1) := by decide +kernel
theorem dX5_readBar_159 : decode cX5_readBar 159 = .ok (.getfield 27, 3) := by decide +kernel
theorem dX5_readBar_162 : decode cX5_readBar 162 = .ok (.iaload, 1) := by decide +kernel
theorem dX5_readBar_163 : decode cX5_readBar 163 = .ok (.bipush 11, 2) := by decide +kernel
theorem dX5_readBar_165 : decode cX5_readBar 165 = .ok (.invokevirtual 60, 3) := by decide +kernel
theorem dX5_readBar_168 : decode cX5_readBar 168 = .ok (.iastore, 1) := by decide +kernel
theorem dX5_readBar_169 : decode cX5_readBar 169 = .ok (.aload_n 1, 1) := by decide +kernel
theorem dX5_readBar_170 : decode cX5_readBar 170 = .ok (.invokevirtual 68, 3) := by decide +kernel
theorem dX5_readBar_173 : decode cX5_readBar 173 = .ok (.aload_n 0, 1) := by decide +kernel
theorem dX5_readBar_174 : decode cX5_readBar 174 = .ok (.dup, 1) := by decide +kernel
theorem dX5_readBar_175 : decode cX5_readBar 175 = .ok (.getfield 27, 3) := by decide +kernel
theorem dX5_readBar_178 : decode cX5_readBar 178 = .ok (.iconst 1, 1) := by decide +kernel
theorem dX5_readBar_179 : decode cX5_readBar 179 = .ok (.iadd, 1) := by decide +kernel
theorem dX5_readBar_180 : decode cX5_readBar 180 = .ok (.putfield 27, 3) := by decide +kernel
theorem dX5_readBar_183 : decode cX5_readBar 183 = .ok (.return_, 1) := by decide +kernel
theorem dX6_init_0 : decode cX6_init 0 = .ok (.aload_n 0, 1) := by decide +kernel
theorem dX6_init_1 : decode cX6_init 1 = .ok (.invokespecial 3, 3) := by decide +kernel
theorem dX6_init_4 : decode cX6_init 4 = .ok (.aload_n 0, 1) := by decide +kernel
theorem dX6_init_5 : decode cX6_init 5 = .ok (.bipush 8, 2) := by decide +kernel
theorem dX6_init_7 : decode cX6_init 7 = .ok (.newarray .int, 2) := by decide +kernel
theorem dX6_init_9 : decode cX6_init 9 = .ok (.putfield 9, 3) := by decide +kernel
theorem dX6_init_12 : decode cX6_init 12 = .ok (.aload_n 0, 1) := by decide +kernel
theorem dX6_init_13 : decode cX6_init 13 = .ok (.bipush 8, 2) := by decide +kernel
theorem dX6_init_15 : decode cX6_init 15 = .ok (.newarray .int, 2) := by decide +kernel
theorem dX6_init_17 : decode cX6_init 17 = .ok (.putfield 15, 3) := by decide +kernel
theorem dX6_init_20 : decode cX6_init 20 = .ok (.aload_n 0, 1) := by decide +kernel
theorem dX6_init_21 : decode cX6_init 21 = .ok (.bipush 8, 2) := by decide +kernel
theorem dX6_init_23 : decode cX6_init 23 = .ok (.newarray .int, 2) := by decide +kernel
theorem dX6_init_25 : decode cX6_init 25 = .ok (.putfield 18, 3) := by decide +kernel
theorem dX6_init_28 : decode cX6_init 28 = .ok (.aload_n 0, 1) := by decide +kernel
theorem dX6_init_29 : decode cX6_init 29 = .ok (.iconst 0, 1) := by decide +kernel
theorem dX6_init_30 : decode cX6_init 30 = .ok (.putfield 21, 3) := by decide +kernel
theorem dX6_init_33 : decode cX6_init 33 = .ok (.aload_n 0, 1) := by decide +kernel
theorem dX6_init_34 : decode cX6_init 34 = .ok (.iconst 0, 1) := by decide +kernel
theorem dX6_init_35 : decode cX6_init 35 = .ok (.putfield 25, 3) := by decide +kernel
theorem dX6_init_38 : decode cX6_init 38 = .ok (.aload_n 0, 1) := by decide +kernel
theorem dX6_init_39 : decode cX6_init 39 = .ok (.iconst 0, 1) := by decide +kernel
theorem dX6_init_40 : decode cX6_init 40 = .ok (.putfield 28, 3) := by decide +kernel
theorem dX6_init_43 : decode cX6_init 43 = .ok (.aload_n 0, 1) := by decide +kernel
theorem dX6_init_44 : decode cX6_init 44 = .ok (.iconst 0, 1) := by decide +kernel
theorem dX6_init_45 : decode cX6_init 45 = .ok (.putfield 32, 3) := by decide +kernel
theorem dX6_init_48 : decode cX6_init 48 = .ok (.aload_n 0, 1) := by decide +kernel
theorem dX6_init_49 : decode cX6_init 49 = .ok (.iconst 0, 1) := by decide +kernel
theorem dX6_init_50 : decode cX6_init 50 = .ok (.putfield 35, 3) := by decide +kernel
theorem dX6_init_53 : decode cX6_init 53 = .ok (.return_, 1) := by decide +kernel
theorem dX6_chance_0 : decode cX6_chance 0 = .ok (.iload_n 2, 1) := by decide +kernel
theorem dX6_chance_1 : decode cX6_chance 1 = .ok (.ifCond .eq 12, 3) := by decide +kernel
theorem dX6_chance_4 : decode cX6_chance 4 = .ok (.aload_n 0, 1) := by decide +kernel
theorem dX6_chance_5 : decode cX6_chance 5 = .ok (.getfield 18, 3) := by decide +kernel
theorem dX6_chance_8 : decode cX6_chance 8 = .ok (.iload_n 1, 1) := by decide +kernel
theorem dX6_chance_9 : decode cX6_chance 9 = .ok (.iaload, 1) := by decide +kernel
theorem dX6_chance_10 : decode cX6_chance 10 = .ok (.goto 9, 3) := by decide +kernel
theorem dX6_chance_13 : decode cX6_chance 13 = .ok (.aload_n 0, 1) := by decide +kernel
theorem dX6_chance_14 : decode cX6_chance 14 = .ok (.getfield 15, 3) := by decide +kernel
theorem dX6_chance_17 : decode cX6_chance 17 = .ok (.iload_n 1, 1) := by decide +kernel
theorem dX6_chance_18 : decode cX6_chance 18 = .ok (.iaload, 1) := by decide +kernel
theorem dX6_chance_19 : decode cX6_chance 19 = .ok (.ireturn, 1) := by decide +kernel
theorem dX6_sumDrawn_0 : decode cX6_sumDrawn 0 = .ok (.iconst 0, 1) := by decide +kernel
theorem dX6_sumDrawn_1 : decode cX6_sumDrawn 1 = .ok (.istore_n 2, 1) := by decide +kernel
theorem dX6_sumDrawn_2 : decode cX6_sumDrawn 2 = .ok (.iconst 0, 1) := by decide +kernel
theorem dX6_sumDrawn_3 : decode cX6_sumDrawn 3 = .ok (.istore_n 3, 1) := by decide +kernel
theorem dX6_sumDrawn_4 : decode cX6_sumDrawn 4 = .ok (.iload_n 3, 1) := by decide +kernel
theorem dX6_sumDrawn_5 : decode cX6_sumDrawn 5 = .ok (.aload_n 0, 1) := by decide +kernel
theorem dX6_sumDrawn_6 : decode cX6_sumDrawn 6 = .ok (.getfield 21, 3) := by decide +kernel
theorem dX6_sumDrawn_9 : decode cX6_sumDrawn 9 = .ok (.if_icmp .ge 30, 3) := by decide +kernel
theorem dX6_sumDrawn_12 : decode cX6_sumDrawn 12 = .ok (.iload_n 2, 1) := by decide +kernel
theorem dX6_sumDrawn_13 : decode cX6_sumDrawn 13 = .ok (.aload_n 0, 1) := by decide +kernel
theorem dX6_sumDrawn_14 : decode cX6_sumDrawn 14 = .ok (.getfield 15, 3) := by decide +kernel
theorem dX6_sumDrawn_17 : decode cX6_sumDrawn 17 = .ok (.iload_n 3, 1) := by decide +kernel
theorem dX6_sumDrawn_18 : decode cX6_sumDrawn 18 = .ok (.iaload, 1) := by decide +kernel
theorem dX6_sumDrawn_19 : decode cX6_sumDrawn 19 = .ok (.iadd, 1) := by decide +kernel
theorem dX6_sumDrawn_20 : decode cX6_sumDrawn 20 = .ok (.istore_n 2, 1) := by decide +kernel
theorem dX6_sumDrawn_21 : decode cX6_sumDrawn 21 = .ok (.iload_n 2, 1) := by decide +kernel
theorem dX6_sumDrawn_22 : decode cX6_sumDrawn 22 = .ok (.iload_n 1, 1) := by decide +kernel
theorem dX6_sumDrawn_23 : decode cX6_sumDrawn 23 = .ok (.if_icmp .le 10, 3) := by decide +kernel
theorem dX6_sumDrawn_26 : decode cX6_sumDrawn 26 = .ok (.aload_n 0, 1) := by decide +kernel
theorem dX6_sumDrawn_27 : decode cX6_sumDrawn 27 = .ok (.getfield 9, 3) := by decide +kernel
theorem dX6_sumDrawn_30 : decode cX6_sumDrawn 30 = .ok (.iload_n 3, 1) := by decide +kernel
theorem dX6_sumDrawn_31 : decode cX6_sumDrawn 31 = .ok (.iaload, 1) := by decide +kernel
theorem dX6_sumDrawn_32 : decode cX6_sumDrawn 32 = .ok (.ireturn, 1) := by decide +kernel
theorem dX6_sumDrawn_33 : decode cX6_sumDrawn 33 = .ok (.iinc 3 1, 3) := by decide +kernel
theorem dX6_sumDrawn_36 : decode cX6_sumDrawn 36 = .ok (.goto (-32), 3) := by decide +kernel
theorem dX6_sumDrawn_39 : decode cX6_sumDrawn 39 = .ok (.iconst 0, 1) := by decide +kernel
theorem dX6_sumDrawn_40 : decode cX6_sumDrawn 40 = .ok (.ireturn, 1) := by decide +kernel
theorem dX6_readFrom_0 : decode cX6_readFrom 0 = .ok (.aload_n 0, 1) := by decide +kernel
theorem dX6_readFrom_1 : decode cX6_readFrom 1 = .ok (.iconst 0, 1) := by decide +kernel
theorem dX6_readFrom_2 : decode cX6_readFrom 2 = .ok (.putfield 21, 3) := by decide +kernel
theorem dX6_readFrom_5 : decode cX6_readFrom 5 = .ok (.aload_n 0, 1) := by decide +kernel
theorem dX6_readFrom_6 : decode cX6_readFrom 6 = .ok (.iconst 0, 1) := by decide +kernel
theorem dX6_readFrom_7 : decode cX6_readFrom 7 = .ok (.putfield 25, 3) := by decide +kernel
theorem dX6_readFrom_10 : decode cX6_readFrom 10 = .ok (.aload_n 0, 1) := by decide +kernel
theorem dX6_readFrom_11 : decode cX6_readFrom 11 = .ok (.iconst 0, 1) := by decide +kernel
theorem dX6_readFrom_12 : decode cX6_readFrom 12 = .ok (.putfield 28, 3) := by decide +kernel
theorem dX6_readFrom_15 : decode cX6_readFrom 15 = .ok (.aload_n 0, 1) := by decide +kernel
theorem dX6_readFrom_16 : decode cX6_readFrom 16 = .ok (.iconst 0, 1) := by decide +kernel
theorem dX6_readFrom_17 : decode cX6_readFrom 17 = .ok (.putfield 32, 3) := by decide +kernel
theorem dX6_readFrom_20 : decode cX6_readFrom 20 = .ok (.aload_n 0, 1) := by decide +kernel
theorem dX6_readFrom_21 : decode cX6_readFrom 21 = .ok (.iconst 0, 1) := by decide +kernel
theorem dX6_readFrom_22 : decode cX6_readFrom 22 = .ok (.putfield 35, 3) := by decide +kernel
theorem dX6_readFrom_25 : decode cX6_readFrom 25 = .ok (.aload_n 1, 1) := by decide +kernel
theorem dX6_readFrom_26 : decode cX6_readFrom 26 = .ok (.invokevirtual 38, 3) := by decide +kernel
theorem dX6_readFrom_29 : decode cX6_readFrom 29 = .ok (.iconst 0, 1) := by decide +kernel
theorem dX6_readFrom_30 : decode cX6_readFrom 30 = .ok (.istore_n 2, 1) := by decide +kernel
theorem dX6_readFrom_31 : decode cX6_readFrom 31 = .ok (.iload_n 2, 1) := by decide +kernel
theorem dX6_readFrom_32 : decode cX6_readFrom 32 = .ok (.sipush 300, 3) := by decide +kernel
theorem dX6_readFrom_35 : decode cX6_readFrom 35 = .ok (.if_icmp .ge 59, 3) := by decide +kernel
theorem dX6_readFrom_38 : decode cX6_readFrom 38 = .ok (.aload_n 1, 1) := by decide +kernel
theorem dX6_readFrom_39 : decode cX6_readFrom 39 = .ok (.invokevirtual 43, 3) := by decide +kernel
theorem dX6_readFrom_42 : decode cX6_readFrom 42 = .ok (.ifCond .eq 52, 3) := by decide +kernel
theorem dX6_readFrom_45 : decode cX6_readFrom 45 = .ok (.aload_n 1, 1) := by decide +kernel
theorem dX6_readFrom_46 : decode cX6_readFrom 46 = .ok (.ldc 47, 2) := by decide +kernel
theorem dX6_readFrom_48 : decode cX6_readFrom 48 = .ok (.invokevirtual 49, 3) := by decide +kernel
theorem dX6_readFrom_51 : decode cX6_readFrom 51 = .ok (.ifCond .eq 11, 3) := by decide +kernel
theorem dX6_readFrom_54 : decode cX6_readFrom 54 = .ok (.aload_n 0, 1) := by decide +kernel
theorem dX6_readFrom_55 : decode cX6_readFrom 55 = .ok (.aload_n 1, 1) := by decide +kernel
theorem dX6_readFrom_56 : decode cX6_readFrom 56 = .ok (.invokevirtual 53, 3) := by decide +kernel
theorem dX6_readFrom_59 : decode cX6_readFrom 59 = .ok (.goto 29, 3) := by decide +kernel
theorem dX6_readFrom_62 : decode cX6_readFrom 62 = .ok (.aload_n 1, 1) := by decide +kernel
theorem dX6_readFrom_63 : decode cX6_readFrom 63 = .ok (.ldc 57, 2) := by decide +kernel
theorem dX6_readFrom_65 : decode cX6_readFrom 65 = .ok (.invokevirtual 49, 3) := by decide +kernel
theorem dX6_readFrom_68 : decode cX6_readFrom 68 = .ok (.ifCond .eq 11, 3) := by decide +kernel
theorem dX6_readFrom_71 : decode cX6_readFrom 71 = .ok (.aload_n 0, 1) := by decide +kernel
theorem dX6_readFrom_72 : decode cX6_readFrom 72 = .ok (.aload_n 1, 1) := by decide +kernel
theorem dX6_readFrom_73 : decode cX6_readFrom 73 = .ok (.invokevirtual 59, 3) := by decide +kernel
theorem dX6_readFrom_76 : decode cX6_readFrom 76 = .ok (.goto 12, 3) := by decide +kernel
theorem dX6_readFrom_79 : decode cX6_readFrom 79 = .ok (.aload_n 1, 1) := by decide +kernel
theorem dX6_readFrom_80 : decode cX6_readFrom 80 = .ok (.iconst 1, 1) := by decide +kernel
theorem dX6_readFrom_81 : decode cX6_readFrom 81 = .ok (.aload_n 1, 1) := by decide +kernel
theorem dX6_readFrom_82 : decode cX6_readFrom 82 = .ok (.getfield 62, 3) := by decide +kernel
theorem dX6_readFrom_85 : decode cX6_readFrom 85 = .ok (.invokevirtual 65, 3) := by decide +kernel
theorem dX6_readFrom_88 : decode cX6_readFrom 88 = .ok (.iinc 2 1, 3) := by decide +kernel
theorem dX6_readFrom_91 : decode cX6_readFrom 91 = .ok (.goto (-60), 3) := by decide +kernel
theorem dX6_readFrom_94 : decode cX6_readFrom 94 = .ok (.aload_n 0, 1) := by decide +kernel
theorem dX6_readFrom_95 : decode cX6_readFrom 95 = .ok (.getfield 21, 3) := by decide +kernel
theorem dX6_readFrom_98 : decode cX6_readFrom 98 = .ok (.ifCond .ne 12, 3) := by decide +kernel
theorem dX6_readFrom_101 : decode cX6_readFrom 101 = .ok (.aload_n 1, 1) := by decide +kernel
theorem dX6_readFrom_102 : decode cX6_readFrom 102 = .ok (.iconst 5, 1) := by decide +kernel
theorem dX6_readFrom_103 : decode cX6_readFrom 103 = .ok (.aload_n 1, 1) := by decide +kernel
theorem dX6_readFrom_104 : decode cX6_readFrom 104 = .ok (.getfield 69, 3) := by decide +kernel
theorem dX6_readFrom_107 : decode cX6_readFrom 107 = .ok (.invokevirtual 65, 3) := by decide +kernel
theorem dX6_readFrom_110 : decode cX6_readFrom 110 = .ok (.aload_n 0, 1) := by decide +kernel
theorem dX6_readFrom_111 : decode cX6_readFrom 111 = .ok (.invokevirtual 72, 3) := by decide +kernel
theorem dX6_readFrom_114 : decode cX6_readFrom 114 = .ok (.return_, 1) := by decide +kernel
theorem dX6_readScrape_0 : decode cX6_readScrape 0 = .ok (.aload_n 0, 1) := by decide +kernel
theorem dX6_readScrape_1 : decode cX6_readScrape 1 = .ok (.getfield 21, 3) := by decide +kernel
theorem dX6_readScrape_4 : decode cX6_readScrape 4 = .ok (.bipush 8, 2) := by decide +kernel
theorem dX6_readScrape_6 : decode cX6_readScrape 6 = .ok (.if_icmp .lt 13, 3) := by decide +kernel
theorem dX6_readScrape_9 : decode cX6_readScrape 9 = .ok (.aload_n 1, 1) := by decide +kernel
theorem dX6_readScrape_10 : decode cX6_readScrape 10 = .ok (.iconst 3, 1) := by decide +kernel
theorem dX6_readScrape_11 : decode cX6_readScrape 11 = .ok (.aload_n 1, 1) := by decide +kernel
theorem dX6_readScrape_12 : decode cX6_readScrape 12 = .ok (.getfield 62, 3) := by decide +kernel
theorem dX6_readScrape_15 : decode cX6_readScrape 15 = .ok (.invokevirtual 65, 3) := by decide +kernel
theorem dX6_readScrape_18 : decode cX6_readScrape 18 = .ok (.return_, 1) := by decide +kernel
theorem dX6_readScrape_19 : decode cX6_readScrape 19 = .ok (.aload_n 1, 1) := by decide +kernel
theorem dX6_readScrape_20 : decode cX6_readScrape 20 = .ok (.invokevirtual 75, 3) := by decide +kernel
theorem dX6_readScrape_23 : decode cX6_readScrape 23 = .ok (.aload_n 0, 1) := by decide +kernel
theorem dX6_readScrape_24 : decode cX6_readScrape 24 = .ok (.getfield 9, 3) := by decide +kernel
theorem dX6_readScrape_27 : decode cX6_readScrape 27 = .ok (.aload_n 0, 1) := by decide +kernel
theorem dX6_readScrape_28 : decode cX6_readScrape 28 = .ok (.getfield 21, 3) := by decide +kernel
theorem dX6_readScrape_31 : decode cX6_readScrape 31 = .ok (.aload_n 1, 1) := by decide +kernel
theorem dX6_readScrape_32 : decode cX6_readScrape 32 = .ok (.aload_n 0, 1) := by decide +kernel
theorem dX6_readScrape_33 : decode cX6_readScrape 33 = .ok (.getfield 21, 3) := by decide +kernel
theorem dX6_readScrape_36 : decode cX6_readScrape 36 = .ok (.ifCond .le 19, 3) := by decide +kernel
theorem dX6_readScrape_39 : decode cX6_readScrape 39 = .ok (.aload_n 0, 1) := by decide +kernel
theorem dX6_readScrape_40 : decode cX6_readScrape 40 = .ok (.getfield 9, 3) := by decide +kernel
theorem dX6_readScrape_43 : decode cX6_readScrape 43 = .ok (.aload_n 0, 1) := by decide +kernel
theorem dX6_readScrape_44 : decode cX6_readScrape 44 = .ok (.getfield 21, 3) := by decide +kernel
theorem dX6_readScrape_47 : decode cX6_readScrape 47 = .ok (.iconst 1, 1) := by decide +kernel
theorem dX6_readScrape_48 : decode cX6_readScrape 48 = .ok (.isub, 1) := by decide +kernel
theorem dX6_readScrape_49 : decode cX6_readScrape 49 = .ok (.iaload, 1) := by decide +kernel
theorem dX6_readScrape_50 : decode cX6_readScrape 50 = .ok (.iconst 1, 1) := by decide +kernel
theorem dX6_readScrape_51 : decode cX6_readScrape 51 = .ok (.iadd, 1) := by decide +kernel
theorem dX6_readScrape_52 : decode cX6_readScrape 52 = .ok (.goto 4, 3) := by decide +kernel
theorem dX6_readScrape_55 : decode cX6_readScrape 55 = .ok (.iconst 1, 1) := by decide +kernel
theorem dX6_readScrape_56 : decode cX6_readScrape 56 = .ok (.sipush 999, 3) := by decide +kernel
theorem dX6_readScrape_59 : decode cX6_readScrape 59 = .ok (.invokevirtual 78, 3) := by decide +kernel
theorem dX6_readScrape_62 : decode cX6_readScrape 62 = .ok (.iastore, 1) := by decide +kernel
theorem dX6_readScrape_63 : decode cX6_readScrape 63 = .ok (.aload_n 1, 1) := by decide +kernel
theorem dX6_readScrape_64 : decode cX6_readScrape 64 = .ok (.getfield 62, 3) := by decide +kernel
theorem dX6_readScrape_67 : decode cX6_readScrape 67 = .ok (.istore_n 2, 1) := by decide +kernel
theorem dX6_readScrape_68 : decode cX6_readScrape 68 = .ok (.aload_n 0, 1) := by decide +kernel
theorem dX6_readScrape_69 : decode cX6_readScrape 69 = .ok (.getfield 15, 3) := by decide +kernel
theorem dX6_readScrape_72 : decode cX6_readScrape 72 = .ok (.aload_n 0, 1) := by decide +kernel
theorem dX6_readScrape_73 : decode cX6_readScrape 73 = .ok (.getfield 21, 3) := by decide +kernel
theorem dX6_readScrape_76 : decode cX6_readScrape 76 = .ok (.aload_n 1, 1) := by decide +kernel
theorem dX6_readScrape_77 : decode cX6_readScrape 77 = .ok (.iconst 1, 1) := by decide +kernel
theorem dX6_readScrape_78 : decode cX6_readScrape 78 = .ok (.sipush 999, 3) := by decide +kernel
theorem dX6_readScrape_81 : decode cX6_readScrape 81 = .ok (.invokevirtual 78, 3) := by decide +kernel
theorem dX6_readScrape_84 : decode cX6_readScrape 84 = .ok (.iastore, 1) := by decide +kernel
theorem dX6_readScrape_85 : decode cX6_readScrape 85 = .ok (.aload_n 0, 1) := by decide +kernel
theorem dX6_readScrape_86 : decode cX6_readScrape 86 = .ok (.dup, 1) := by decide +kernel
theorem dX6_readScrape_87 : decode cX6_readScrape 87 = .ok (.getfield 25, 3) := by decide +kernel
theorem dX6_readScrape_90 : decode cX6_readScrape 90 = .ok (.aload_n 0, 1) := by decide +kernel
theorem dX6_readScrape_91 : decode cX6_readScrape 91 = .ok (.getfield 15, 3) := by decide +kernel
theorem dX6_readScrape_94 : decode cX6_readScrape 94 = .ok (.aload_n 0, 1) := by decide +kernel
theorem dX6_readScrape_95 : decode cX6_readScrape 95 = .ok (.getfield 21, 3) := by decide +kernel
theorem dX6_readScrape_98 : decode cX6_readScrape 98 = .ok (.iaload, 1) := by decide +kernel
theorem dX6_readScrape_99 : decode cX6_readScrape 99 = .ok (.iadd, 1) := by decide +kernel
theorem dX6_readScrape_100 : decode cX6_readScrape 100 = .ok (.putfield 25, 3) := by decide +kernel
theorem dX6_readScrape_103 : decode cX6_readScrape 103 = .ok (.aload_n 0, 1) := by decide +kernel
theorem dX6_readScrape_104 : decode cX6_readScrape 104 = .ok (.getfield 25, 3) := by decide +kernel
theorem dX6_readScrape_107 : decode cX6_readScrape 107 = .ok (.sipush 1000, 3) := by decide +kernel
theorem dX6_readScrape_110 : decode cX6_readScrape 110 = .ok (.if_icmp .le 9, 3) := by decide +kernel
theorem dX6_readScrape_113 : decode cX6_readScrape 113 = .ok (.aload_n 1, 1) := by decide +kernel
theorem dX6_readScrape_114 : decode cX6_readScrape 114 = .ok (.iconst 4, 1) := by decide +kernel
theorem dX6_readScrape_115 : decode cX6_readScrape 115 = .ok (.iload_n 2, 1) := by decide +kernel
theorem dX6_readScrape_116 : decode cX6_readScrape 116 = .ok (.invokevirtual 65, 3) := by decide +kernel
theorem dX6_readScrape_119 : decode cX6_readScrape 119 = .ok (.aload_n 1, 1) := by decide +kernel
theorem dX6_readScrape_120 : decode cX6_readScrape 120 = .ok (.invokevirtual 82, 3) := by decide +kernel
theorem dX6_readScrape_123 : decode cX6_readScrape 123 = .ok (.aload_n 0, 1) := by decide +kernel
theorem dX6_readScrape_124 : decode cX6_readScrape 124 = .ok (.dup, 1) := by decide +kernel
theorem dX6_readScrape_125 : decode cX6_readScrape 125 = .ok (.getfield 21, 3) := by decide +kernel
theorem dX6_readScrape_128 : decode cX6_readScrape 128 = .ok (.iconst 1, 1) := by decide +kernel
theorem dX6_readScrape_129 : decode cX6_readScrape 129 = .ok (.iadd, 1) := by decide +kernel
theorem dX6_readScrape_130 : decode cX6_readScrape 130 = .ok (.putfield 21, 3) := by decide +kernel
theorem dX6_readScrape_133 : decode cX6_readScrape 133 = .ok (.return_, 1) := by decide +kernel
theorem dX6_readPains_0 : decode cX6_readPains 0 = .ok (.aload_n 0, 1) := by decide +kernel
theorem dX6_readPains_1 : decode cX6_readPains 1 = .ok (.getfield 28, 3) := by decide +kernel
theorem dX6_readPains_4 : decode cX6_readPains 4 = .ok (.ifCond .eq 13, 3) := by decide +kernel
theorem dX6_readPains_7 : decode cX6_readPains 7 = .ok (.aload_n 1, 1) := by decide +kernel
theorem dX6_readPains_8 : decode cX6_readPains 8 = .ok (.iconst 3, 1) := by decide +kernel
theorem dX6_readPains_9 : decode cX6_readPains 9 = .ok (.aload_n 1, 1) := by decide +kernel
theorem dX6_readPains_10 : decode cX6_readPains 10 = .ok (.getfield 62, 3) := by decide +kernel
theorem dX6_readPains_13 : decode cX6_readPains 13 = .ok (.invokevirtual 65, 3) := by decide +kernel
theorem dX6_readPains_16 : decode cX6_readPains 16 = .ok (.return_, 1) := by decide +kernel
theorem dX6_readPains_17 : decode cX6_readPains 17 = .ok (.aload_n 1, 1) := by decide +kernel
theorem dX6_readPains_18 : decode cX6_readPains 18 = .ok (.invokevirtual 75, 3) := by decide +kernel
theorem dX6_readPains_21 : decode cX6_readPains 21 = .ok (.aload_n 0, 1) := by decide +kernel
theorem dX6_readPains_22 : decode cX6_readPains 22 = .ok (.aload_n 1, 1) := by decide +kernel
theorem dX6_readPains_23 : decode cX6_readPains 23 = .ok (.iconst 0, 1) := by decide +kernel
theorem dX6_readPains_24 : decode cX6_readPains 24 = .ok (.sipush 999, 3) := by decide +kernel
theorem dX6_readPains_27 : decode cX6_readPains 27 = .ok (.invokevirtual 78, 3) := by decide +kernel
theorem dX6_readPains_30 : decode cX6_readPains 30 = .ok (.putfield 32, 3) := by decide +kernel
theorem dX6_readPains_33 : decode cX6_readPains 33 = .ok (.aload_n 0, 1) := by decide +kernel
theorem dX6_readPains_34 : decode cX6_readPains 34 = .ok (.aload_n 1, 1) := by decide +kernel
theorem dX6_readPains_35 : decode cX6_readPains 35 = .ok (.iconst 0, 1) := by decide +kernel
theorem dX6_readPains_36 : decode cX6_readPains 36 = .ok (.bipush 100, 2) := by decide +kernel
theorem dX6_readPains_38 : decode cX6_readPains 38 = .ok (.invokevirtual 78, 3) := by decide +kernel
theorem dX6_readPains_41 : decode cX6_readPains 41 = .ok (.putfield 35, 3) := by decide +kernel
theorem dX6_readPains_44 : decode cX6_readPains 44 = .ok (.aload_n 1, 1) := by decide +kernel
theorem dX6_readPains_45 : decode cX6_readPains 45 = .ok (.invokevirtual 82, 3) := by decide +kernel
theorem dX6_readPains_48 : decode cX6_readPains 48 = .ok (.aload_n 0, 1) := by decide +kernel
theorem dX6_readPains_49 : decode cX6_readPains 49 = .ok (.iconst 1, 1) := by decide +kernel
theorem dX6_readPains_50 : decode cX6_readPains 50 = .ok (.putfield 28, 3) := by decide +kernel
theorem dX6_readPains_53 : decode cX6_readPains 53 = .ok (.return_, 1) := by decide +kernel
theorem dX6_spare_0 : decode cX6_spare 0 = .ok (.iconst 0, 1) := by decide +kernel
theorem dX6_spare_1 : decode cX6_spare 1 = .ok (.istore_n 1, 1) := by decide +kernel
theorem dX6_spare_2 : decode cX6_spare 2 = .ok (.iload_n 1, 1) := by decide +kernel
theorem dX6_spare_3 : decode cX6_spare 3 = .ok (.aload_n 0, 1) := by decide +kernel
theorem dX6_spare_4 : decode cX6_spare 4 = .ok (.getfield 21, 3) := by decide +kernel
theorem dX6_spare_7 : decode cX6_spare 7 = .ok (.if_icmp .ge 32, 3) := by decide +kernel
theorem dX6_spare_10 : decode cX6_spare 10 = .ok (.aload_n 0, 1) := by decide +kernel
theorem dX6_spare_11 : decode cX6_spare 11 = .ok (.getfield 18, 3) := by decide +kernel
theorem dX6_spare_14 : decode cX6_spare 14 = .ok (.iload_n 1, 1) := by decide +kernel
theorem dX6_spare_15 : decode cX6_spare 15 = .ok (.aload_n 0, 1) := by decide +kernel
theorem dX6_spare_16 : decode cX6_spare 16 = .ok (.getfield 15, 3) := by decide +kernel
theorem dX6_spare_19 : decode cX6_spare 19 = .ok (.iload_n 1, 1) := by decide +kernel
theorem dX6_spare_20 : decode cX6_spare 20 = .ok (.iaload, 1) := by decide +kernel
theorem dX6_spare_21 : decode cX6_spare 21 = .ok (.bipush 100, 2) := by decide +kernel
theorem dX6_spare_23 : decode cX6_spare 23 = .ok (.aload_n 0, 1) := by decide +kernel
theorem dX6_spare_24 : decode cX6_spare 24 = .ok (.getfield 35, 3) := by decide +kernel
theorem dX6_spare_27 : decode cX6_spare 27 = .ok (.isub, 1) := by decide +kernel
theorem dX6_spare_28 : decode cX6_spare 28 = .ok (.imul, 1) := by decide +kernel
theorem dX6_spare_29 : decode cX6_spare 29 = .ok (.bipush 100, 2) := by decide +kernel
theorem dX6_spare_31 : decode cX6_spare 31 = .ok (.idiv, 1) := by decide +kernel
theorem dX6_spare_32 : decode cX6_spare 32 = .ok (.iastore, 1) := by decide +kernel
theorem dX6_spare_33 : decode cX6_spare 33 = .ok (.iinc 1 1, 3) := by decide +kernel
theorem dX6_spare_36 : decode cX6_spare 36 = .ok (.goto (-34), 3) := by decide +kernel
theorem dX6_spare_39 : decode cX6_spare 39 = .ok (.return_, 1) := by decide +kernel
