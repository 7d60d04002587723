theorem dX2_init_0 : decode cX2_init 0 = .ok (.aload_n 0, 1) := by decide +kernel
theorem dX2_init_1 : decode cX2_init 1 = .ok (.invokespecial 3, 3) := by decide +kernel
theorem dX2_init_4 : decode cX2_init 4 = .ok (.aload_n 0, 1) := by decide +kernel
theorem dX2_init_5 : decode cX2_init 5 = .ok (.new 9, 3) := by decide +kernel
theorem dX2_init_8 : decode cX2_init 8 = .ok (.dup, 1) := by decide +kernel
theorem dX2_init_9 : decode cX2_init 9 = .ok (.invokespecial 11, 3) := by decide +kernel
theorem dX2_init_12 : decode cX2_init 12 = .ok (.putfield 12, 3) := by decide +kernel
theorem dX2_init_15 : decode cX2_init 15 = .ok (.aload_n 0, 1) := by decide +kernel
theorem dX2_init_16 : decode cX2_init 16 = .ok (.bipush 24, 2) := by decide +kernel
theorem dX2_init_18 : decode cX2_init 18 = .ok (.newarray .int, 2) := by decide +kernel
theorem dX2_init_20 : decode cX2_init 20 = .ok (.putfield 18, 3) := by decide +kernel
theorem dX2_init_23 : decode cX2_init 23 = .ok (.return_, 1) := by decide +kernel
theorem dX2_run_0 : decode cX2_run 0 = .ok (.aload_n 0, 1) := by decide +kernel
theorem dX2_run_1 : decode cX2_run 1 = .ok (.iload_n 2, 1) := by decide +kernel
theorem dX2_run_2 : decode cX2_run 2 = .ok (.putfield 22, 3) := by decide +kernel
theorem dX2_run_5 : decode cX2_run 5 = .ok (.iload_n 2, 1) := by decide +kernel
theorem dX2_run_6 : decode cX2_run 6 = .ok (.ifCond .ne 23, 3) := by decide +kernel
theorem dX2_run_9 : decode cX2_run 9 = .ok (.aload_n 0, 1) := by decide +kernel
theorem dX2_run_10 : decode cX2_run 10 = .ok (.dup, 1) := by decide +kernel
theorem dX2_run_11 : decode cX2_run 11 = .ok (.getfield 26, 3) := by decide +kernel
theorem dX2_run_14 : decode cX2_run 14 = .ok (.iconst 1, 1) := by decide +kernel
theorem dX2_run_15 : decode cX2_run 15 = .ok (.iadd, 1) := by decide +kernel
theorem dX2_run_16 : decode cX2_run 16 = .ok (.putfield 26, 3) := by decide +kernel
theorem dX2_run_19 : decode cX2_run 19 = .ok (.aload_n 0, 1) := by decide +kernel
theorem dX2_run_20 : decode cX2_run 20 = .ok (.iconst 0, 1) := by decide +kernel
theorem dX2_run_21 : decode cX2_run 21 = .ok (.putfield 30, 3) := by decide +kernel
theorem dX2_run_24 : decode cX2_run 24 = .ok (.aload_n 0, 1) := by decide +kernel
theorem dX2_run_25 : decode cX2_run 25 = .ok (.iconst 0, 1) := by decide +kernel
theorem dX2_run_26 : decode cX2_run 26 = .ok (.putfield 33, 3) := by decide +kernel
theorem dX2_run_29 : decode cX2_run 29 = .ok (.aload_n 0, 1) := by decide +kernel
theorem dX2_run_30 : decode cX2_run 30 = .ok (.getfield 12, 3) := by decide +kernel
theorem dX2_run_33 : decode cX2_run 33 = .ok (.getfield 36, 3) := by decide +kernel
theorem dX2_run_36 : decode cX2_run 36 = .ok (.astore_n 3, 1) := by decide +kernel
theorem dX2_run_37 : decode cX2_run 37 = .ok (.aload_n 3, 1) := by decide +kernel
theorem dX2_run_38 : decode cX2_run 38 = .ok (.arraylength, 1) := by decide +kernel
theorem dX2_run_39 : decode cX2_run 39 = .ok (.istore 4, 2) := by decide +kernel
theorem dX2_run_41 : decode cX2_run 41 = .ok (.iconst 0, 1) := by decide +kernel
theorem dX2_run_42 : decode cX2_run 42 = .ok (.istore 5, 2) := by decide +kernel
theorem dX2_run_44 : decode cX2_run 44 = .ok (.iload 5, 2) := by decide +kernel
theorem dX2_run_46 : decode cX2_run 46 = .ok (.iload 4, 2) := by decide +kernel
theorem dX2_run_48 : decode cX2_run 48 = .ok (.if_icmp .ge 26, 3) := by decide +kernel
theorem dX2_run_51 : decode cX2_run 51 = .ok (.aload_n 3, 1) := by decide +kernel
theorem dX2_run_52 : decode cX2_run 52 = .ok (.iload 5, 2) := by decide +kernel
theorem dX2_run_54 : decode cX2_run 54 = .ok (.aaload, 1) := by decide +kernel
theorem dX2_run_55 : decode cX2_run 55 = .ok (.astore 6, 2) := by decide +kernel
theorem dX2_run_57 : decode cX2_run 57 = .ok (.aload 6, 2) := by decide +kernel
theorem dX2_run_59 : decode cX2_run 59 = .ok (.ifnull 9, 3) := by decide +kernel
theorem dX2_run_62 : decode cX2_run 62 = .ok (.aload 6, 2) := by decide +kernel
theorem dX2_run_64 : decode cX2_run 64 = .ok (.iload_n 2, 1) := by decide +kernel
theorem dX2_run_65 : decode cX2_run 65 = .ok (.invokevirtual 40, 3) := by decide +kernel
theorem dX2_run_68 : decode cX2_run 68 = .ok (.iinc 5 1, 3) := by decide +kernel
theorem dX2_run_71 : decode cX2_run 71 = .ok (.goto (-27), 3) := by decide +kernel
theorem dX2_run_74 : decode cX2_run 74 = .ok (.aload_n 0, 1) := by decide +kernel
theorem dX2_run_75 : decode cX2_run 75 = .ok (.aload_n 0, 1) := by decide +kernel
theorem dX2_run_76 : decode cX2_run 76 = .ok (.aload_n 1, 1) := by decide +kernel
theorem dX2_run_77 : decode cX2_run 77 = .ok (.invokevirtual 46, 3) := by decide +kernel
theorem dX2_run_80 : decode cX2_run 80 = .ok (.putfield 50, 3) := by decide +kernel
theorem dX2_run_83 : decode cX2_run 83 = .ok (.aload_n 0, 1) := by decide +kernel
theorem dX2_run_84 : decode cX2_run 84 = .ok (.aload_n 0, 1) := by decide +kernel
theorem dX2_run_85 : decode cX2_run 85 = .ok (.aload_n 0, 1) := by decide +kernel
theorem dX2_run_86 : decode cX2_run 86 = .ok (.getfield 50, 3) := by decide +kernel
theorem dX2_run_89 : decode cX2_run 89 = .ok (.invokevirtual 54, 3) := by decide +kernel
theorem dX2_run_92 : decode cX2_run 92 = .ok (.putfield 58, 3) := by decide +kernel
theorem dX2_run_95 : decode cX2_run 95 = .ok (.aload_n 0, 1) := by decide +kernel
theorem dX2_run_96 : decode cX2_run 96 = .ok (.getfield 50, 3) := by decide +kernel
theorem dX2_run_99 : decode cX2_run 99 = .ok (.invokevirtual 61, 3) := by decide +kernel
theorem dX2_run_102 : decode cX2_run 102 = .ok (.ifCond .eq 16, 3) := by decide +kernel
theorem dX2_run_105 : decode cX2_run 105 = .ok (.bipush (-10), 2) := by decide +kernel
theorem dX2_run_107 : decode cX2_run 107 = .ok (.aload_n 0, 1) := by decide +kernel
theorem dX2_run_108 : decode cX2_run 108 = .ok (.getfield 50, 3) := by decide +kernel
theorem dX2_run_111 : decode cX2_run 111 = .ok (.getfield 67, 3) := by decide +kernel
theorem dX2_run_114 : decode cX2_run 114 = .ok (.isub, 1) := by decide +kernel
theorem dX2_run_115 : decode cX2_run 115 = .ok (.goto 11, 3) := by decide +kernel
theorem dX2_run_118 : decode cX2_run 118 = .ok (.aload_n 0, 1) := by decide +kernel
theorem dX2_run_119 : decode cX2_run 119 = .ok (.getfield 50, 3) := by decide +kernel
theorem dX2_run_122 : decode cX2_run 122 = .ok (.getfield 70, 3) := by decide +kernel
theorem dX2_run_125 : decode cX2_run 125 = .ok (.arraylength, 1) := by decide +kernel
theorem dX2_run_126 : decode cX2_run 126 = .ok (.ireturn, 1) := by decide +kernel
theorem dX2_ringBehind_0 : decode cX2_ringBehind 0 = .ok (.aload_n 1, 1) := by decide +kernel
theorem dX2_ringBehind_1 : decode cX2_ringBehind 1 = .ok (.getfield 67, 3) := by decide +kernel
theorem dX2_ringBehind_4 : decode cX2_ringBehind 4 = .ok (.iconst 3, 1) := by decide +kernel
theorem dX2_ringBehind_5 : decode cX2_ringBehind 5 = .ok (.if_icmp .ne 17, 3) := by decide +kernel
theorem dX2_ringBehind_8 : decode cX2_ringBehind 8 = .ok (.aload_n 0, 1) := by decide +kernel
theorem dX2_ringBehind_9 : decode cX2_ringBehind 9 = .ok (.getfield 12, 3) := by decide +kernel
theorem dX2_ringBehind_12 : decode cX2_ringBehind 12 = .ok (.aload_n 1, 1) := by decide +kernel
theorem dX2_ringBehind_13 : decode cX2_ringBehind 13 = .ok (.getfield 73, 3) := by decide +kernel
theorem dX2_ringBehind_16 : decode cX2_ringBehind 16 = .ok (.invokevirtual 76, 3) := by decide +kernel
theorem dX2_ringBehind_19 : decode cX2_ringBehind 19 = .ok (.goto 4, 3) := by decide +kernel
theorem dX2_ringBehind_22 : decode cX2_ringBehind 22 = .ok (.aconst_null, 1) := by decide +kernel
theorem dX2_ringBehind_23 : decode cX2_ringBehind 23 = .ok (.astore_n 2, 1) := by decide +kernel
theorem dX2_ringBehind_24 : decode cX2_ringBehind 24 = .ok (.aload_n 2, 1) := by decide +kernel
theorem dX2_ringBehind_25 : decode cX2_ringBehind 25 = .ok (.ifnonnull 7, 3) := by decide +kernel
theorem dX2_ringBehind_28 : decode cX2_ringBehind 28 = .ok (.iconst 0, 1) := by decide +kernel
theorem dX2_ringBehind_29 : decode cX2_ringBehind 29 = .ok (.goto 7, 3) := by decide +kernel
theorem dX2_ringBehind_32 : decode cX2_ringBehind 32 = .ok (.aload_n 2, 1) := by decide +kernel
theorem dX2_ringBehind_33 : decode cX2_ringBehind 33 = .ok (.getfield 80, 3) := by decide +kernel
theorem dX2_ringBehind_36 : decode cX2_ringBehind 36 = .ok (.ireturn, 1) := by decide +kernel
theorem dX2_outcomeOf_0 : decode cX2_outcomeOf 0 = .ok (.iload_n 1, 1) := by decide +kernel
theorem dX2_outcomeOf_1 : decode cX2_outcomeOf 1 = .ok (.bipush 16, 2) := by decide +kernel
theorem dX2_outcomeOf_3 : decode cX2_outcomeOf 3 = .ok (.if_icmp .ge 13, 3) := by decide +kernel
theorem dX2_outcomeOf_6 : decode cX2_outcomeOf 6 = .ok (.aload_n 0, 1) := by decide +kernel
theorem dX2_outcomeOf_7 : decode cX2_outcomeOf 7 = .ok (.getfield 12, 3) := by decide +kernel
theorem dX2_outcomeOf_10 : decode cX2_outcomeOf 10 = .ok (.getfield 83, 3) := by decide +kernel
theorem dX2_outcomeOf_13 : decode cX2_outcomeOf 13 = .ok (.iload_n 1, 1) := by decide +kernel
theorem dX2_outcomeOf_14 : decode cX2_outcomeOf 14 = .ok (.aaload, 1) := by decide +kernel
theorem dX2_outcomeOf_15 : decode cX2_outcomeOf 15 = .ok (.areturn, 1) := by decide +kernel
theorem dX2_outcomeOf_16 : decode cX2_outcomeOf 16 = .ok (.aload_n 0, 1) := by decide +kernel
theorem dX2_outcomeOf_17 : decode cX2_outcomeOf 17 = .ok (.getfield 12, 3) := by decide +kernel
theorem dX2_outcomeOf_20 : decode cX2_outcomeOf 20 = .ok (.iload_n 1, 1) := by decide +kernel
theorem dX2_outcomeOf_21 : decode cX2_outcomeOf 21 = .ok (.bipush 16, 2) := by decide +kernel
theorem dX2_outcomeOf_23 : decode cX2_outcomeOf 23 = .ok (.isub, 1) := by decide +kernel
theorem dX2_outcomeOf_24 : decode cX2_outcomeOf 24 = .ok (.invokevirtual 76, 3) := by decide +kernel
theorem dX2_outcomeOf_27 : decode cX2_outcomeOf 27 = .ok (.astore_n 2, 1) := by decide +kernel
theorem dX2_outcomeOf_28 : decode cX2_outcomeOf 28 = .ok (.aload_n 2, 1) := by decide +kernel
theorem dX2_outcomeOf_29 : decode cX2_outcomeOf 29 = .ok (.ifnonnull 16, 3) := by decide +kernel
theorem dX2_outcomeOf_32 : decode cX2_outcomeOf 32 = .ok (.aload_n 0, 1) := by decide +kernel
theorem dX2_outcomeOf_33 : decode cX2_outcomeOf 33 = .ok (.getfield 12, 3) := by decide +kernel
theorem dX2_outcomeOf_36 : decode cX2_outcomeOf 36 = .ok (.getfield 87, 3) := by decide +kernel
theorem dX2_outcomeOf_39 : decode cX2_outcomeOf 39 = .ok (.iload_n 1, 1) := by decide +kernel
theorem dX2_outcomeOf_40 : decode cX2_outcomeOf 40 = .ok (.bipush 16, 2) := by decide +kernel
theorem dX2_outcomeOf_42 : decode cX2_outcomeOf 42 = .ok (.isub, 1) := by decide +kernel
theorem dX2_outcomeOf_43 : decode cX2_outcomeOf 43 = .ok (.aaload, 1) := by decide +kernel
theorem dX2_outcomeOf_44 : decode cX2_outcomeOf 44 = .ok (.areturn, 1) := by decide +kernel
theorem dX2_outcomeOf_45 : decode cX2_outcomeOf 45 = .ok (.aload_n 2, 1) := by decide +kernel
theorem dX2_outcomeOf_46 : decode cX2_outcomeOf 46 = .ok (.getfield 90, 3) := by decide +kernel
theorem dX2_outcomeOf_49 : decode cX2_outcomeOf 49 = .ok (.ifnull 8, 3) := by decide +kernel
theorem dX2_outcomeOf_52 : decode cX2_outcomeOf 52 = .ok (.aload_n 2, 1) := by decide +kernel
theorem dX2_outcomeOf_53 : decode cX2_outcomeOf 53 = .ok (.getfield 90, 3) := by decide +kernel
theorem dX2_outcomeOf_56 : decode cX2_outcomeOf 56 = .ok (.areturn, 1) := by decide +kernel
theorem dX2_outcomeOf_57 : decode cX2_outcomeOf 57 = .ok (.aload_n 2, 1) := by decide +kernel
theorem dX2_outcomeOf_58 : decode cX2_outcomeOf 58 = .ok (.getfield 93, 3) := by decide +kernel
theorem dX2_outcomeOf_61 : decode cX2_outcomeOf 61 = .ok (.ifCond .gt 12, 3) := by decide +kernel
theorem dX2_outcomeOf_64 : decode cX2_outcomeOf 64 = .ok (.aload_n 0, 1) := by decide +kernel
theorem dX2_outcomeOf_65 : decode cX2_outcomeOf 65 = .ok (.getfield 96, 3) := by decide +kernel
theorem dX2_outcomeOf_68 : decode cX2_outcomeOf 68 = .ok (.bipush 24, 2) := by decide +kernel
theorem dX2_outcomeOf_70 : decode cX2_outcomeOf 70 = .ok (.if_icmp .lt 9, 3) := by decide +kernel
theorem dX2_outcomeOf_73 : decode cX2_outcomeOf 73 = .ok (.aload_n 0, 1) := by decide +kernel
theorem dX2_outcomeOf_74 : decode cX2_outcomeOf 74 = .ok (.aload_n 2, 1) := by decide +kernel
theorem dX2_outcomeOf_75 : decode cX2_outcomeOf 75 = .ok (.invokevirtual 99, 3) := by decide +kernel
theorem dX2_outcomeOf_78 : decode cX2_outcomeOf 78 = .ok (.areturn, 1) := by decide +kernel
theorem dX2_outcomeOf_79 : decode cX2_outcomeOf 79 = .ok (.aload_n 0, 1) := by decide +kernel
theorem dX2_outcomeOf_80 : decode cX2_outcomeOf 80 = .ok (.aload_n 2, 1) := by decide +kernel
theorem dX2_outcomeOf_81 : decode cX2_outcomeOf 81 = .ok (.invokevirtual 46, 3) := by decide +kernel
theorem dX2_outcomeOf_84 : decode cX2_outcomeOf 84 = .ok (.areturn, 1) := by decide +kernel
theorem dX2_closeRing_0 : decode cX2_closeRing 0 = .ok (.iconst 0, 1) := by decide +kernel
theorem dX2_closeRing_1 : decode cX2_closeRing 1 = .ok (.istore_n 2, 1) := by decide +kernel
theorem dX2_closeRing_2 : decode cX2_closeRing 2 = .ok (.aload_n 1, 1) := by decide +kernel
theorem dX2_closeRing_3 : decode cX2_closeRing 3 = .ok (.astore_n 3, 1) := by decide +kernel
theorem dX2_closeRing_4 : decode cX2_closeRing 4 = .ok (.aload_n 0, 1) := by decide +kernel
theorem dX2_closeRing_5 : decode cX2_closeRing 5 = .ok (.getfield 12, 3) := by decide +kernel
theorem dX2_closeRing_8 : decode cX2_closeRing 8 = .ok (.getfield 36, 3) := by decide +kernel
theorem dX2_closeRing_11 : decode cX2_closeRing 11 = .ok (.astore 4, 2) := by decide +kernel
theorem dX2_closeRing_13 : decode cX2_closeRing 13 = .ok (.aload 4, 2) := by decide +kernel
theorem dX2_closeRing_15 : decode cX2_closeRing 15 = .ok (.arraylength, 1) := by decide +kernel
theorem dX2_closeRing_16 : decode cX2_closeRing 16 = .ok (.istore 5, 2) := by decide +kernel
theorem dX2_closeRing_18 : decode cX2_closeRing 18 = .ok (.iconst 0, 1) := by decide +kernel
theorem dX2_closeRing_19 : decode cX2_closeRing 19 = .ok (.istore 6, 2) := by decide +kernel
theorem dX2_closeRing_21 : decode cX2_closeRing 21 = .ok (.iload 6, 2) := by decide +kernel
theorem dX2_closeRing_23 : decode cX2_closeRing 23 = .ok (.iload 5, 2) := by decide +kernel
theorem dX2_closeRing_25 : decode cX2_closeRing 25 = .ok (.if_icmp .ge 62, 3) := by decide +kernel
theorem dX2_closeRing_28 : decode cX2_closeRing 28 = .ok (.aload 4, 2) := by decide +kernel
theorem dX2_closeRing_30 : decode cX2_closeRing 30 = .ok (.iload 6, 2) := by decide +kernel
theorem dX2_closeRing_32 : decode cX2_closeRing 32 = .ok (.aaload, 1) := by decide +kernel
theorem dX2_closeRing_33 : decode cX2_closeRing 33 = .ok (.astore 7, 2) := by decide +kernel
theorem dX2_closeRing_35 : decode cX2_closeRing 35 = .ok (.aload 7, 2) := by decide +kernel
theorem dX2_closeRing_37 : decode cX2_closeRing 37 = .ok (.ifnull 44, 3) := by decide +kernel
theorem dX2_closeRing_40 : decode cX2_closeRing 40 = .ok (.aload 7, 2) := by decide +kernel
theorem dX2_closeRing_42 : decode cX2_closeRing 42 = .ok (.getfield 93, 3) := by decide +kernel
theorem dX2_closeRing_45 : decode cX2_closeRing 45 = .ok (.aload_n 1, 1) := by decide +kernel
theorem dX2_closeRing_46 : decode cX2_closeRing 46 = .ok (.getfield 93, 3) := by decide +kernel
theorem dX2_closeRing_49 : decode cX2_closeRing 49 = .ok (.if_icmp .lt 32, 3) := by decide +kernel
theorem dX2_closeRing_52 : decode cX2_closeRing 52 = .ok (.iload_n 2, 1) := by decide +kernel
theorem dX2_closeRing_53 : decode cX2_closeRing 53 = .ok (.iconst 1, 1) := by decide +kernel
theorem dX2_closeRing_54 : decode cX2_closeRing 54 = .ok (.aload 7, 2) := by decide +kernel
theorem dX2_closeRing_56 : decode cX2_closeRing 56 = .ok (.getfield 102, 3) := by decide +kernel
theorem dX2_closeRing_59 : decode cX2_closeRing 59 = .ok (.ishl, 1) := by decide +kernel
theorem dX2_closeRing_60 : decode cX2_closeRing 60 = .ok (.ior, 1) := by decide +kernel
theorem dX2_closeRing_61 : decode cX2_closeRing 61 = .ok (.istore_n 2, 1) := by decide +kernel
theorem dX2_closeRing_62 : decode cX2_closeRing 62 = .ok (.aload 7, 2) := by decide +kernel
theorem dX2_closeRing_64 : decode cX2_closeRing 64 = .ok (.getfield 102, 3) := by decide +kernel
theorem dX2_closeRing_67 : decode cX2_closeRing 67 = .ok (.aload_n 3, 1) := by decide +kernel
theorem dX2_closeRing_68 : decode cX2_closeRing 68 = .ok (.getfield 102, 3) := by decide +kernel
theorem dX2_closeRing_71 : decode cX2_closeRing 71 = .ok (.if_icmp .ge 8, 3) := by decide +kernel
theorem dX2_closeRing_74 : decode cX2_closeRing 74 = .ok (.aload 7, 2) := by decide +kernel
theorem dX2_closeRing_76 : decode cX2_closeRing 76 = .ok (.goto 4, 3) := by decide +kernel
theorem dX2_closeRing_79 : decode cX2_closeRing 79 = .ok (.aload_n 3, 1) := by decide +kernel
theorem dX2_closeRing_80 : decode cX2_closeRing 80 = .ok (.astore_n 3, 1) := by decide +kernel
theorem dX2_closeRing_81 : decode cX2_closeRing 81 = .ok (.iinc 6 1, 3) := by decide +kernel
theorem dX2_closeRing_84 : decode cX2_closeRing 84 = .ok (.goto (-63), 3) := by decide +kernel
theorem dX2_closeRing_87 : decode cX2_closeRing 87 = .ok (.aload_n 0, 1) := by decide +kernel
theorem dX2_closeRing_88 : decode cX2_closeRing 88 = .ok (.getfield 12, 3) := by decide +kernel
theorem dX2_closeRing_91 : decode cX2_closeRing 91 = .ok (.getfield 36, 3) := by decide +kernel
theorem dX2_closeRing_94 : decode cX2_closeRing 94 = .ok (.astore 4, 2) := by decide +kernel
theorem dX2_closeRing_96 : decode cX2_closeRing 96 = .ok (.aload 4, 2) := by decide +kernel
theorem dX2_closeRing_98 : decode cX2_closeRing 98 = .ok (.arraylength, 1) := by decide +kernel
theorem dX2_closeRing_99 : decode cX2_closeRing 99 = .ok (.istore 5, 2) := by decide +kernel
theorem dX2_closeRing_101 : decode cX2_closeRing 101 = .ok (.iconst 0, 1) := by decide +kernel
theorem dX2_closeRing_102 : decode cX2_closeRing 102 = .ok (.istore 6, 2) := by decide +kernel
theorem dX2_closeRing_104 : decode cX2_closeRing 104 = .ok (.iload 6, 2) := by decide +kernel
theorem dX2_closeRing_106 : decode cX2_closeRing 106 = .ok (.iload 5, 2) := by decide +kernel
theorem dX2_closeRing_108 : decode cX2_closeRing 108 = .ok (.if_icmp .ge 48, 3) := by decide +kernel
theorem dX2_closeRing_111 : decode cX2_closeRing 111 = .ok (.aload 4, 2) := by decide +kernel
theorem dX2_closeRing_113 : decode cX2_closeRing 113 = .ok (.iload 6, 2) := by decide +kernel
theorem dX2_closeRing_115 : decode cX2_closeRing 115 = .ok (.aaload, 1) := by decide +kernel
theorem dX2_closeRing_116 : decode cX2_closeRing 116 = .ok (.astore 7, 2) := by decide +kernel
theorem dX2_closeRing_118 : decode cX2_closeRing 118 = .ok (.aload 7, 2) := by decide +kernel
theorem dX2_closeRing_120 : decode cX2_closeRing 120 = .ok (.ifnull 30, 3) := by decide +kernel
theorem dX2_closeRing_123 : decode cX2_closeRing 123 = .ok (.aload 7, 2) := by decide +kernel
theorem dX2_closeRing_125 : decode cX2_closeRing 125 = .ok (.getfield 93, 3) := by decide +kernel
theorem dX2_closeRing_128 : decode cX2_closeRing 128 = .ok (.aload_n 1, 1) := by decide +kernel
theorem dX2_closeRing_129 : decode cX2_closeRing 129 = .ok (.getfield 93, 3) := by decide +kernel
theorem dX2_closeRing_132 : decode cX2_closeRing 132 = .ok (.if_icmp .lt 18, 3) := by decide +kernel
theorem dX2_closeRing_135 : decode cX2_closeRing 135 = .ok (.aload 7, 2) := by decide +kernel
theorem dX2_closeRing_137 : decode cX2_closeRing 137 = .ok (.iload_n 2, 1) := by decide +kernel
theorem dX2_closeRing_138 : decode cX2_closeRing 138 = .ok (.putfield 80, 3) := by decide +kernel
theorem dX2_closeRing_141 : decode cX2_closeRing 141 = .ok (.aload 7, 2) := by decide +kernel
theorem dX2_closeRing_143 : decode cX2_closeRing 143 = .ok (.aload_n 3, 1) := by decide +kernel
theorem dX2_closeRing_144 : decode cX2_closeRing 144 = .ok (.getfield 105, 3) := by decide +kernel
theorem dX2_closeRing_147 : decode cX2_closeRing 147 = .ok (.putfield 108, 3) := by decide +kernel
theorem dX2_closeRing_150 : decode cX2_closeRing 150 = .ok (.iinc 6 1, 3) := by decide +kernel
theorem dX2_closeRing_153 : decode cX2_closeRing 153 = .ok (.goto (-49), 3) := by decide +kernel
theorem dX2_closeRing_156 : decode cX2_closeRing 156 = .ok (.aload_n 3, 1) := by decide +kernel
theorem dX2_closeRing_157 : decode cX2_closeRing 157 = .ok (.getfield 105, 3) := by decide +kernel
theorem dX2_closeRing_160 : decode cX2_closeRing 160 = .ok (.areturn, 1) := by decide +kernel
theorem dX2_makeRule_0 : decode cX2_makeRule 0 = .ok (.aload_n 0, 1) := by decide +kernel
theorem dX2_makeRule_1 : decode cX2_makeRule 1 = .ok (.dup, 1) := by decide +kernel
theorem dX2_makeRule_2 : decode cX2_makeRule 2 = .ok (.getfield 96, 3) := by decide +kernel
theorem dX2_makeRule_5 : decode cX2_makeRule 5 = .ok (.iconst 1, 1) := by decide +kernel
theorem dX2_makeRule_6 : decode cX2_makeRule 6 = .ok (.iadd, 1) := by decide +kernel
theorem dX2_makeRule_7 : decode cX2_makeRule 7 = .ok (.putfield 96, 3) := by decide +kernel
theorem dX2_makeRule_10 : decode cX2_makeRule 10 = .ok (.aload_n 1, 1) := by decide +kernel
theorem dX2_makeRule_11 : decode cX2_makeRule 11 = .ok (.aload_n 0, 1) := by decide +kernel
theorem dX2_makeRule_12 : decode cX2_makeRule 12 = .ok (.getfield 96, 3) := by decide +kernel
theorem dX2_makeRule_15 : decode cX2_makeRule 15 = .ok (.putfield 93, 3) := by decide +kernel
theorem dX2_makeRule_18 : decode cX2_makeRule 18 = .ok (.aload_n 0, 1) := by decide +kernel
theorem dX2_makeRule_19 : decode cX2_makeRule 19 = .ok (.getfield 22, 3) := by decide +kernel
theorem dX2_makeRule_22 : decode cX2_makeRule 22 = .ok (.ifCond .eq 7, 3) := by decide +kernel
theorem dX2_makeRule_25 : decode cX2_makeRule 25 = .ok (.aconst_null, 1) := by decide +kernel
theorem dX2_makeRule_26 : decode cX2_makeRule 26 = .ok (.goto 8, 3) := by decide +kernel
theorem dX2_makeRule_29 : decode cX2_makeRule 29 = .ok (.aload_n 0, 1) := by decide +kernel
theorem dX2_makeRule_30 : decode cX2_makeRule 30 = .ok (.aload_n 1, 1) := by decide +kernel
theorem dX2_makeRule_31 : decode cX2_makeRule 31 = .ok (.invokevirtual 111, 3) := by decide +kernel
theorem dX2_makeRule_34 : decode cX2_makeRule 34 = .ok (.astore_n 2, 1) := by decide +kernel
theorem dX2_makeRule_35 : decode cX2_makeRule 35 = .ok (.aload_n 2, 1) := by decide +kernel
theorem dX2_makeRule_36 : decode cX2_makeRule 36 = .ok (.ifnonnull 9, 3) := by decide +kernel
theorem dX2_makeRule_39 : decode cX2_makeRule 39 = .ok (.aload_n 0, 1) := by decide +kernel
theorem dX2_makeRule_40 : decode cX2_makeRule 40 = .ok (.aload_n 1, 1) := by decide +kernel
theorem dX2_makeRule_41 : decode cX2_makeRule 41 = .ok (.invokevirtual 114, 3) := by decide +kernel
theorem dX2_makeRule_44 : decode cX2_makeRule 44 = .ok (.astore_n 2, 1) := by decide +kernel
theorem dX2_makeRule_45 : decode cX2_makeRule 45 = .ok (.aload_n 1, 1) := by decide +kernel
theorem dX2_makeRule_46 : decode cX2_makeRule 46 = .ok (.aload_n 2, 1) := by decide +kernel
theorem dX2_makeRule_47 : decode cX2_makeRule 47 = .ok (.putfield 90, 3) := by decide +kernel
theorem dX2_makeRule_50 : decode cX2_makeRule 50 = .ok (.aload_n 1, 1) := by decide +kernel
theorem dX2_makeRule_51 : decode cX2_makeRule 51 = .ok (.iconst 0, 1) := by decide +kernel
theorem dX2_makeRule_52 : decode cX2_makeRule 52 = .ok (.putfield 93, 3) := by decide +kernel
theorem dX2_makeRule_55 : decode cX2_makeRule 55 = .ok (.aload_n 0, 1) := by decide +kernel
theorem dX2_makeRule_56 : decode cX2_makeRule 56 = .ok (.dup, 1) := by decide +kernel
theorem dX2_makeRule_57 : decode cX2_makeRule 57 = .ok (.getfield 96, 3) := by decide +kernel
theorem dX2_makeRule_60 : decode cX2_makeRule 60 = .ok (.iconst 1, 1) := by decide +kernel
theorem dX2_makeRule_61 : decode cX2_makeRule 61 = .ok (.isub, 1) := by decide +kernel
theorem dX2_makeRule_62 : decode cX2_makeRule 62 = .ok (.putfield 96, 3) := by decide +kernel
theorem dX2_makeRule_65 : decode cX2_makeRule 65 = .ok (.aload_n 2, 1) := by decide +kernel
theorem dX2_makeRule_66 : decode cX2_makeRule 66 = .ok (.areturn, 1) := by decide +kernel
theorem dX2_lookAt_0 : decode cX2_lookAt 0 = .ok (.iconst 0, 1) := by decide +kernel
theorem dX2_lookAt_1 : decode cX2_lookAt 1 = .ok (.istore_n 2, 1) := by decide +kernel
theorem dX2_lookAt_2 : decode cX2_lookAt 2 = .ok (.iload_n 2, 1) := by decide +kernel
theorem dX2_lookAt_3 : decode cX2_lookAt 3 = .ok (.aload_n 1, 1) := by decide +kernel
theorem dX2_lookAt_4 : decode cX2_lookAt 4 = .ok (.getfield 117, 3) := by decide +kernel
theorem dX2_lookAt_7 : decode cX2_lookAt 7 = .ok (.if_icmp .ge 66, 3) := by decide +kernel
theorem dX2_lookAt_10 : decode cX2_lookAt 10 = .ok (.aload_n 1, 1) := by decide +kernel
theorem dX2_lookAt_11 : decode cX2_lookAt 11 = .ok (.iload_n 2, 1) := by decide +kernel
theorem dX2_lookAt_12 : decode cX2_lookAt 12 = .ok (.invokevirtual 120, 3) := by decide +kernel
theorem dX2_lookAt_15 : decode cX2_lookAt 15 = .ok (.astore_n 3, 1) := by decide +kernel
theorem dX2_lookAt_16 : decode cX2_lookAt 16 = .ok (.aload_n 3, 1) := by decide +kernel
theorem dX2_lookAt_17 : decode cX2_lookAt 17 = .ok (.ifnonnull 5, 3) := by decide +kernel
theorem dX2_lookAt_20 : decode cX2_lookAt 20 = .ok (.aconst_null, 1) := by decide +kernel
theorem dX2_lookAt_21 : decode cX2_lookAt 21 = .ok (.areturn, 1) := by decide +kernel
theorem dX2_lookAt_22 : decode cX2_lookAt 22 = .ok (.aload_n 0, 1) := by decide +kernel
theorem dX2_lookAt_23 : decode cX2_lookAt 23 = .ok (.aload_n 1, 1) := by decide +kernel
theorem dX2_lookAt_24 : decode cX2_lookAt 24 = .ok (.aload_n 3, 1) := by decide +kernel
theorem dX2_lookAt_25 : decode cX2_lookAt 25 = .ok (.invokevirtual 124, 3) := by decide +kernel
theorem dX2_lookAt_28 : decode cX2_lookAt 28 = .ok (.istore 4, 2) := by decide +kernel
theorem dX2_lookAt_30 : decode cX2_lookAt 30 = .ok (.aload_n 1, 1) := by decide +kernel
theorem dX2_lookAt_31 : decode cX2_lookAt 31 = .ok (.getfield 128, 3) := by decide +kernel
theorem dX2_lookAt_34 : decode cX2_lookAt 34 = .ok (.iload_n 2, 1) := by decide +kernel
theorem dX2_lookAt_35 : decode cX2_lookAt 35 = .ok (.iload 4, 2) := by decide +kernel
theorem dX2_lookAt_37 : decode cX2_lookAt 37 = .ok (.iastore, 1) := by decide +kernel
theorem dX2_lookAt_38 : decode cX2_lookAt 38 = .ok (.aload_n 1, 1) := by decide +kernel
theorem dX2_lookAt_39 : decode cX2_lookAt 39 = .ok (.getfield 108, 3) := by decide +kernel
theorem dX2_lookAt_42 : decode cX2_lookAt 42 = .ok (.ifnull 8, 3) := by decide +kernel
theorem dX2_lookAt_45 : decode cX2_lookAt 45 = .ok (.aload_n 1, 1) := by decide +kernel
theorem dX2_lookAt_46 : decode cX2_lookAt 46 = .ok (.getfield 108, 3) := by decide +kernel
theorem dX2_lookAt_49 : decode cX2_lookAt 49 = .ok (.areturn, 1) := by decide +kernel
theorem dX2_lookAt_50 : decode cX2_lookAt 50 = .ok (.iload 4, 2) := by decide +kernel
theorem dX2_lookAt_52 : decode cX2_lookAt 52 = .ok (.bipush (-2), 2) := by decide +kernel
theorem dX2_lookAt_54 : decode cX2_lookAt 54 = .ok (.if_icmp .ne 13, 3) := by decide +kernel
theorem dX2_lookAt_57 : decode cX2_lookAt 57 = .ok (.aload_n 1, 1) := by decide +kernel
theorem dX2_lookAt_58 : decode cX2_lookAt 58 = .ok (.iload_n 2, 1) := by decide +kernel
theorem dX2_lookAt_59 : decode cX2_lookAt 59 = .ok (.invokevirtual 131, 3) := by decide +kernel
theorem dX2_lookAt_62 : decode cX2_lookAt 62 = .ok (.aload_n 3, 1) := by decide +kernel
theorem dX2_lookAt_63 : decode cX2_lookAt 63 = .ok (.getfield 135, 3) := by decide +kernel
theorem dX2_lookAt_66 : decode cX2_lookAt 66 = .ok (.areturn, 1) := by decide +kernel
theorem dX2_lookAt_67 : decode cX2_lookAt 67 = .ok (.iinc 2 1, 3) := by decide +kernel
theorem dX2_lookAt_70 : decode cX2_lookAt 70 = .ok (.goto (-68), 3) := by decide +kernel
theorem dX2_lookAt_73 : decode cX2_lookAt 73 = .ok (.aconst_null, 1) := by decide +kernel
theorem dX2_lookAt_74 : decode cX2_lookAt 74 = .ok (.areturn, 1) := by decide +kernel
theorem dX2_firstOther_0 : decode cX2_firstOther 0 = .ok (.iconst 0, 1) := by decide +kernel
theorem dX2_firstOther_1 : decode cX2_firstOther 1 = .ok (.istore_n 3, 1) := by decide +kernel
theorem dX2_firstOther_2 : decode cX2_firstOther 2 = .ok (.iload_n 3, 1) := by decide +kernel
theorem dX2_firstOther_3 : decode cX2_firstOther 3 = .ok (.aload_n 2, 1) := by decide +kernel
theorem dX2_firstOther_4 : decode cX2_firstOther 4 = .ok (.getfield 140, 3) := by decide +kernel
theorem dX2_firstOther_7 : decode cX2_firstOther 7 = .ok (.if_icmp .ge 54, 3) := by decide +kernel
theorem dX2_firstOther_10 : decode cX2_firstOther 10 = .ok (.aload_n 0, 1) := by decide +kernel
theorem dX2_firstOther_11 : decode cX2_firstOther 11 = .ok (.dup, 1) := by decide +kernel
theorem dX2_firstOther_12 : decode cX2_firstOther 12 = .ok (.getfield 33, 3) := by decide +kernel
theorem dX2_firstOther_15 : decode cX2_firstOther 15 = .ok (.iconst 1, 1) := by decide +kernel
theorem dX2_firstOther_16 : decode cX2_firstOther 16 = .ok (.iadd, 1) := by decide +kernel
theorem dX2_firstOther_17 : decode cX2_firstOther 17 = .ok (.putfield 33, 3) := by decide +kernel
theorem dX2_firstOther_20 : decode cX2_firstOther 20 = .ok (.aload_n 0, 1) := by decide +kernel
theorem dX2_firstOther_21 : decode cX2_firstOther 21 = .ok (.aload_n 2, 1) := by decide +kernel
theorem dX2_firstOther_22 : decode cX2_firstOther 22 = .ok (.iload_n 3, 1) := by decide +kernel
theorem dX2_firstOther_23 : decode cX2_firstOther 23 = .ok (.invokevirtual 143, 3) := by decide +kernel
theorem dX2_firstOther_26 : decode cX2_firstOther 26 = .ok (.invokevirtual 147, 3) := by decide +kernel
theorem dX2_firstOther_29 : decode cX2_firstOther 29 = .ok (.astore 4, 2) := by decide +kernel
theorem dX2_firstOther_31 : decode cX2_firstOther 31 = .ok (.aload_n 1, 1) := by decide +kernel
theorem dX2_firstOther_32 : decode cX2_firstOther 32 = .ok (.getfield 108, 3) := by decide +kernel
theorem dX2_firstOther_35 : decode cX2_firstOther 35 = .ok (.ifnull 5, 3) := by decide +kernel
theorem dX2_firstOther_38 : decode cX2_firstOther 38 = .ok (.iconst (-1), 1) := by decide +kernel
theorem dX2_firstOther_39 : decode cX2_firstOther 39 = .ok (.ireturn, 1) := by decide +kernel
theorem dX2_firstOther_40 : decode cX2_firstOther 40 = .ok (.aload 4, 2) := by decide +kernel
theorem dX2_firstOther_42 : decode cX2_firstOther 42 = .ok (.aload_n 2, 1) := by decide +kernel
theorem dX2_firstOther_43 : decode cX2_firstOther 43 = .ok (.iload_n 3, 1) := by decide +kernel
theorem dX2_firstOther_44 : decode cX2_firstOther 44 = .ok (.invokevirtual 151, 3) := by decide +kernel
theorem dX2_firstOther_47 : decode cX2_firstOther 47 = .ok (.invokevirtual 154, 3) := by decide +kernel
theorem dX2_firstOther_50 : decode cX2_firstOther 50 = .ok (.ifCond .ne 5, 3) := by decide +kernel
theorem dX2_firstOther_53 : decode cX2_firstOther 53 = .ok (.iload_n 3, 1) := by decide +kernel
theorem dX2_firstOther_54 : decode cX2_firstOther 54 = .ok (.ireturn, 1) := by decide +kernel
theorem dX2_firstOther_55 : decode cX2_firstOther 55 = .ok (.iinc 3 1, 3) := by decide +kernel
theorem dX2_firstOther_58 : decode cX2_firstOther 58 = .ok (.goto (-56), 3) := by decide +kernel
theorem dX2_firstOther_61 : decode cX2_firstOther 61 = .ok (.bipush (-2), 2) := by decide +kernel
theorem dX2_firstOther_63 : decode cX2_firstOther 63 = .ok (.ireturn, 1) := by decide +kernel
theorem dX2_work_0 : decode cX2_work 0 = .ok (.aload_n 0, 1) := by decide +kernel
theorem dX2_work_1 : decode cX2_work 1 = .ok (.getfield 22, 3) := by decide +kernel
theorem dX2_work_4 : decode cX2_work 4 = .ok (.ifCond .ne 8, 3) := by decide +kernel
theorem dX2_work_7 : decode cX2_work 7 = .ok (.aload_n 0, 1) := by decide +kernel
theorem dX2_work_8 : decode cX2_work 8 = .ok (.aload_n 1, 1) := by decide +kernel
theorem dX2_work_9 : decode cX2_work 9 = .ok (.invokevirtual 158, 3) := by decide +kernel
theorem dX2_work_12 : decode cX2_work 12 = .ok (.aload_n 1, 1) := by decide +kernel
theorem dX2_work_13 : decode cX2_work 13 = .ok (.invokevirtual 162, 3) := by decide +kernel
theorem dX2_work_16 : decode cX2_work 16 = .ok (.iconst 0, 1) := by decide +kernel
theorem dX2_work_17 : decode cX2_work 17 = .ok (.putfield 140, 3) := by decide +kernel
theorem dX2_work_20 : decode cX2_work 20 = .ok (.aload_n 1, 1) := by decide +kernel
theorem dX2_work_21 : decode cX2_work 21 = .ok (.getfield 166, 3) := by decide +kernel
theorem dX2_work_24 : decode cX2_work 24 = .ok (.lookupswitch 49 #[(5, 28), (6, 38)], 28) := by decide +kernel
theorem dX2_work_52 : decode cX2_work 52 = .ok (.aload_n 0, 1) := by decide +kernel
theorem dX2_work_53 : decode cX2_work 53 = .ok (.aload_n 1, 1) := by decide +kernel
theorem dX2_work_54 : decode cX2_work 54 = .ok (.iconst 1, 1) := by decide +kernel
theorem dX2_work_55 : decode cX2_work 55 = .ok (.invokevirtual 169, 3) := by decide +kernel
theorem dX2_work_58 : decode cX2_work 58 = .ok (.astore_n 2, 1) := by decide +kernel
theorem dX2_work_59 : decode cX2_work 59 = .ok (.goto 20, 3) := by decide +kernel
theorem dX2_work_62 : decode cX2_work 62 = .ok (.aload_n 0, 1) := by decide +kernel
theorem dX2_work_63 : decode cX2_work 63 = .ok (.aload_n 1, 1) := by decide +kernel
theorem dX2_work_64 : decode cX2_work 64 = .ok (.bipush 24, 2) := by decide +kernel
theorem dX2_work_66 : decode cX2_work 66 = .ok (.invokevirtual 169, 3) := by decide +kernel
theorem dX2_work_69 : decode cX2_work 69 = .ok (.astore_n 2, 1) := by decide +kernel
theorem dX2_work_70 : decode cX2_work 70 = .ok (.goto 9, 3) := by decide +kernel
theorem dX2_work_73 : decode cX2_work 73 = .ok (.aload_n 0, 1) := by decide +kernel
theorem dX2_work_74 : decode cX2_work 74 = .ok (.aload_n 1, 1) := by decide +kernel
theorem dX2_work_75 : decode cX2_work 75 = .ok (.invokevirtual 173, 3) := by decide +kernel
theorem dX2_work_78 : decode cX2_work 78 = .ok (.astore_n 2, 1) := by decide +kernel
theorem dX2_work_79 : decode cX2_work 79 = .ok (.aload_n 0, 1) := by decide +kernel
theorem dX2_work_80 : decode cX2_work 80 = .ok (.getfield 22, 3) := by decide +kernel
theorem dX2_work_83 : decode cX2_work 83 = .ok (.ifCond .ne 15, 3) := by decide +kernel
theorem dX2_work_86 : decode cX2_work 86 = .ok (.aload_n 1, 1) := by decide +kernel
theorem dX2_work_87 : decode cX2_work 87 = .ok (.getfield 108, 3) := by decide +kernel
theorem dX2_work_90 : decode cX2_work 90 = .ok (.ifnonnull 8, 3) := by decide +kernel
theorem dX2_work_93 : decode cX2_work 93 = .ok (.aload_n 1, 1) := by decide +kernel
theorem dX2_work_94 : decode cX2_work 94 = .ok (.aload_n 2, 1) := by decide +kernel
theorem dX2_work_95 : decode cX2_work 95 = .ok (.invokevirtual 176, 3) := by decide +kernel
theorem dX2_work_98 : decode cX2_work 98 = .ok (.aload_n 2, 1) := by decide +kernel
theorem dX2_work_99 : decode cX2_work 99 = .ok (.areturn, 1) := by decide +kernel
theorem dX2_noteWorked_0 : decode cX2_noteWorked 0 = .ok (.aload_n 0, 1) := by decide +kernel
theorem dX2_noteWorked_1 : decode cX2_noteWorked 1 = .ok (.dup, 1) := by decide +kernel
theorem dX2_noteWorked_2 : decode cX2_noteWorked 2 = .ok (.getfield 180, 3) := by decide +kernel
theorem dX2_noteWorked_5 : decode cX2_noteWorked 5 = .ok (.iconst 1, 1) := by decide +kernel
theorem dX2_noteWorked_6 : decode cX2_noteWorked 6 = .ok (.iadd, 1) := by decide +kernel
theorem dX2_noteWorked_7 : decode cX2_noteWorked 7 = .ok (.putfield 180, 3) := by decide +kernel
theorem dX2_noteWorked_10 : decode cX2_noteWorked 10 = .ok (.aload_n 0, 1) := by decide +kernel
theorem dX2_noteWorked_11 : decode cX2_noteWorked 11 = .ok (.getfield 30, 3) := by decide +kernel
theorem dX2_noteWorked_14 : decode cX2_noteWorked 14 = .ok (.bipush 24, 2) := by decide +kernel
theorem dX2_noteWorked_16 : decode cX2_noteWorked 16 = .ok (.if_icmp .ge 26, 3) := by decide +kernel
theorem dX2_noteWorked_19 : decode cX2_noteWorked 19 = .ok (.aload_n 0, 1) := by decide +kernel
theorem dX2_noteWorked_20 : decode cX2_noteWorked 20 = .ok (.getfield 18, 3) := by decide +kernel
theorem dX2_noteWorked_23 : decode cX2_noteWorked 23 = .ok (.aload_n 0, 1) := by decide +kernel
theorem dX2_noteWorked_24 : decode cX2_noteWorked 24 = .ok (.getfield 30, 3) := by decide +kernel
theorem dX2_noteWorked_27 : decode cX2_noteWorked 27 = .ok (.aload_n 1, 1) := by decide +kernel
theorem dX2_noteWorked_28 : decode cX2_noteWorked 28 = .ok (.getfield 102, 3) := by decide +kernel
theorem dX2_noteWorked_31 : decode cX2_noteWorked 31 = .ok (.iastore, 1) := by decide +kernel
theorem dX2_noteWorked_32 : decode cX2_noteWorked 32 = .ok (.aload_n 0, 1) := by decide +kernel
theorem dX2_noteWorked_33 : decode cX2_noteWorked 33 = .ok (.dup, 1) := by decide +kernel
theorem dX2_noteWorked_34 : decode cX2_noteWorked 34 = .ok (.getfield 30, 3) := by decide +kernel
theorem dX2_noteWorked_37 : decode cX2_noteWorked 37 = .ok (.iconst 1, 1) := by decide +kernel
theorem dX2_noteWorked_38 : decode cX2_noteWorked 38 = .ok (.iadd, 1) := by decide +kernel
theorem dX2_noteWorked_39 : decode cX2_noteWorked 39 = .ok (.putfield 30, 3) := by decide +kernel
theorem dX2_noteWorked_42 : decode cX2_noteWorked 42 = .ok (.return_, 1) := by decide +kernel
theorem dX2_readInOrder_0 : decode cX2_readInOrder 0 = .ok (.aload_n 1, 1) := by decide +kernel
theorem dX2_readInOrder_1 : decode cX2_readInOrder 1 = .ok (.invokevirtual 162, 3) := by decide +kernel
theorem dX2_readInOrder_4 : decode cX2_readInOrder 4 = .ok (.astore_n 2, 1) := by decide +kernel
theorem dX2_readInOrder_5 : decode cX2_readInOrder 5 = .ok (.iconst 0, 1) := by decide +kernel
theorem dX2_readInOrder_6 : decode cX2_readInOrder 6 = .ok (.istore_n 3, 1) := by decide +kernel
theorem dX2_readInOrder_7 : decode cX2_readInOrder 7 = .ok (.iconst 0, 1) := by decide +kernel
theorem dX2_readInOrder_8 : decode cX2_readInOrder 8 = .ok (.istore 4, 2) := by decide +kernel
theorem dX2_readInOrder_10 : decode cX2_readInOrder 10 = .ok (.iload 4, 2) := by decide +kernel
theorem dX2_readInOrder_12 : decode cX2_readInOrder 12 = .ok (.aload_n 1, 1) := by decide +kernel
theorem dX2_readInOrder_13 : decode cX2_readInOrder 13 = .ok (.getfield 183, 3) := by decide +kernel
theorem dX2_readInOrder_16 : decode cX2_readInOrder 16 = .ok (.if_icmp .ge 69, 3) := by decide +kernel
theorem dX2_readInOrder_19 : decode cX2_readInOrder 19 = .ok (.aload_n 0, 1) := by decide +kernel
theorem dX2_readInOrder_20 : decode cX2_readInOrder 20 = .ok (.aload_n 1, 1) := by decide +kernel
theorem dX2_readInOrder_21 : decode cX2_readInOrder 21 = .ok (.iload 4, 2) := by decide +kernel
theorem dX2_readInOrder_23 : decode cX2_readInOrder 23 = .ok (.invokevirtual 186, 3) := by decide +kernel
theorem dX2_readInOrder_26 : decode cX2_readInOrder 26 = .ok (.astore 5, 2) := by decide +kernel
theorem dX2_readInOrder_28 : decode cX2_readInOrder 28 = .ok (.aload 5, 2) := by decide +kernel
theorem dX2_readInOrder_30 : decode cX2_readInOrder 30 = .ok (.ifnull 6, 3) := by decide +kernel
theorem dX2_readInOrder_33 : decode cX2_readInOrder 33 = .ok (.aload 5, 2) := by decide +kernel
theorem dX2_readInOrder_35 : decode cX2_readInOrder 35 = .ok (.areturn, 1) := by decide +kernel
theorem dX2_readInOrder_36 : decode cX2_readInOrder 36 = .ok (.iload_n 3, 1) := by decide +kernel
theorem dX2_readInOrder_37 : decode cX2_readInOrder 37 = .ok (.aload_n 2, 1) := by decide +kernel
theorem dX2_readInOrder_38 : decode cX2_readInOrder 38 = .ok (.iload 4, 2) := by decide +kernel
theorem dX2_readInOrder_40 : decode cX2_readInOrder 40 = .ok (.invokevirtual 189, 3) := by decide +kernel
theorem dX2_readInOrder_43 : decode cX2_readInOrder 43 = .ok (.iadd, 1) := by decide +kernel
theorem dX2_readInOrder_44 : decode cX2_readInOrder 44 = .ok (.istore_n 3, 1) := by decide +kernel
theorem dX2_readInOrder_45 : decode cX2_readInOrder 45 = .ok (.aload_n 1, 1) := by decide +kernel
theorem dX2_readInOrder_46 : decode cX2_readInOrder 46 = .ok (.getfield 166, 3) := by decide +kernel
theorem dX2_readInOrder_49 : decode cX2_readInOrder 49 = .ok (.iconst 4, 1) := by decide +kernel
theorem dX2_readInOrder_50 : decode cX2_readInOrder 50 = .ok (.if_icmp .ne 10, 3) := by decide +kernel
theorem dX2_readInOrder_53 : decode cX2_readInOrder 53 = .ok (.iload_n 3, 1) := by decide +kernel
theorem dX2_readInOrder_54 : decode cX2_readInOrder 54 = .ok (.ifCond .le 6, 3) := by decide +kernel
theorem dX2_readInOrder_57 : decode cX2_readInOrder 57 = .ok (.goto 28, 3) := by decide +kernel
theorem dX2_readInOrder_60 : decode cX2_readInOrder 60 = .ok (.aload_n 1, 1) := by decide +kernel
theorem dX2_readInOrder_61 : decode cX2_readInOrder 61 = .ok (.getfield 166, 3) := by decide +kernel
theorem dX2_readInOrder_64 : decode cX2_readInOrder 64 = .ok (.iconst 2, 1) := by decide +kernel
theorem dX2_readInOrder_65 : decode cX2_readInOrder 65 = .ok (.if_icmp .eq 14, 3) := by decide +kernel
theorem dX2_readInOrder_68 : decode cX2_readInOrder 68 = .ok (.iload_n 3, 1) := by decide +kernel
theorem dX2_readInOrder_69 : decode cX2_readInOrder 69 = .ok (.bipush 24, 2) := by decide +kernel
theorem dX2_readInOrder_71 : decode cX2_readInOrder 71 = .ok (.if_icmp .le 8, 3) := by decide +kernel
theorem dX2_readInOrder_74 : decode cX2_readInOrder 74 = .ok (.aload_n 1, 1) := by decide +kernel
theorem dX2_readInOrder_75 : decode cX2_readInOrder 75 = .ok (.getfield 192, 3) := by decide +kernel
theorem dX2_readInOrder_78 : decode cX2_readInOrder 78 = .ok (.areturn, 1) := by decide +kernel
theorem dX2_readInOrder_79 : decode cX2_readInOrder 79 = .ok (.iinc 4 1, 3) := by decide +kernel
theorem dX2_readInOrder_82 : decode cX2_readInOrder 82 = .ok (.goto (-72), 3) := by decide +kernel
theorem dX2_readInOrder_85 : decode cX2_readInOrder 85 = .ok (.new 62, 3) := by decide +kernel
theorem dX2_readInOrder_88 : decode cX2_readInOrder 88 = .ok (.dup, 1) := by decide +kernel
theorem dX2_readInOrder_89 : decode cX2_readInOrder 89 = .ok (.iconst 0, 1) := by decide +kernel
theorem dX2_readInOrder_90 : decode cX2_readInOrder 90 = .ok (.iconst 0, 1) := by decide +kernel
theorem dX2_readInOrder_91 : decode cX2_readInOrder 91 = .ok (.aload_n 1, 1) := by decide +kernel
theorem dX2_readInOrder_92 : decode cX2_readInOrder 92 = .ok (.getfield 166, 3) := by decide +kernel
theorem dX2_readInOrder_95 : decode cX2_readInOrder 95 = .ok (.aload_n 2, 1) := by decide +kernel
theorem dX2_readInOrder_96 : decode cX2_readInOrder 96 = .ok (.invokestatic 195, 3) := by decide +kernel
theorem dX2_readInOrder_99 : decode cX2_readInOrder 99 = .ok (.invokespecial 199, 3) := by decide +kernel
theorem dX2_readInOrder_102 : decode cX2_readInOrder 102 = .ok (.areturn, 1) := by decide +kernel
theorem dX2_rowOf_0 : decode cX2_rowOf 0 = .ok (.iload_n 0, 1) := by decide +kernel
theorem dX2_rowOf_1 : decode cX2_rowOf 1 = .ok (.iconst 2, 1) := by decide +kernel
theorem dX2_rowOf_2 : decode cX2_rowOf 2 = .ok (.if_icmp .ne 14, 3) := by decide +kernel
theorem dX2_rowOf_5 : decode cX2_rowOf 5 = .ok (.iconst 1, 1) := by decide +kernel
theorem dX2_rowOf_6 : decode cX2_rowOf 6 = .ok (.newarray .int, 2) := by decide +kernel
theorem dX2_rowOf_8 : decode cX2_rowOf 8 = .ok (.dup, 1) := by decide +kernel
theorem dX2_rowOf_9 : decode cX2_rowOf 9 = .ok (.iconst 0, 1) := by decide +kernel
theorem dX2_rowOf_10 : decode cX2_rowOf 10 = .ok (.aload_n 1, 1) := by decide +kernel
theorem dX2_rowOf_11 : decode cX2_rowOf 11 = .ok (.invokevirtual 202, 3) := by decide +kernel
theorem dX2_rowOf_14 : decode cX2_rowOf 14 = .ok (.iastore, 1) := by decide +kernel
theorem dX2_rowOf_15 : decode cX2_rowOf 15 = .ok (.areturn, 1) := by decide +kernel
theorem dX2_rowOf_16 : decode cX2_rowOf 16 = .ok (.aload_n 1, 1) := by decide +kernel
theorem dX2_rowOf_17 : decode cX2_rowOf 17 = .ok (.iconst 0, 1) := by decide +kernel
theorem dX2_rowOf_18 : decode cX2_rowOf 18 = .ok (.invokevirtual 206, 3) := by decide +kernel
theorem dX2_rowOf_21 : decode cX2_rowOf 21 = .ok (.astore_n 2, 1) := by decide +kernel
theorem dX2_rowOf_22 : decode cX2_rowOf 22 = .ok (.iload_n 0, 1) := by decide +kernel
theorem dX2_rowOf_23 : decode cX2_rowOf 23 = .ok (.iconst 3, 1) := by decide +kernel
theorem dX2_rowOf_24 : decode cX2_rowOf 24 = .ok (.if_icmp .ne 7, 3) := by decide +kernel
theorem dX2_rowOf_27 : decode cX2_rowOf 27 = .ok (.aload_n 2, 1) := by decide +kernel
theorem dX2_rowOf_28 : decode cX2_rowOf 28 = .ok (.invokestatic 210, 3) := by decide +kernel
theorem dX2_rowOf_31 : decode cX2_rowOf 31 = .ok (.aload_n 2, 1) := by decide +kernel
theorem dX2_rowOf_32 : decode cX2_rowOf 32 = .ok (.areturn, 1) := by decide +kernel
theorem dX2_sort_0 : decode cX2_sort 0 = .ok (.iconst 1, 1) := by decide +kernel
theorem dX2_sort_1 : decode cX2_sort 1 = .ok (.istore_n 1, 1) := by decide +kernel
theorem dX2_sort_2 : decode cX2_sort 2 = .ok (.iload_n 1, 1) := by decide +kernel
theorem dX2_sort_3 : decode cX2_sort 3 = .ok (.aload_n 0, 1) := by decide +kernel
theorem dX2_sort_4 : decode cX2_sort 4 = .ok (.arraylength, 1) := by decide +kernel
theorem dX2_sort_5 : decode cX2_sort 5 = .ok (.if_icmp .ge 46, 3) := by decide +kernel
theorem dX2_sort_8 : decode cX2_sort 8 = .ok (.aload_n 0, 1) := by decide +kernel
theorem dX2_sort_9 : decode cX2_sort 9 = .ok (.iload_n 1, 1) := by decide +kernel
theorem dX2_sort_10 : decode cX2_sort 10 = .ok (.iaload, 1) := by decide +kernel
theorem dX2_sort_11 : decode cX2_sort 11 = .ok (.istore_n 2, 1) := by decide +kernel
theorem dX2_sort_12 : decode cX2_sort 12 = .ok (.iload_n 1, 1) := by decide +kernel
theorem dX2_sort_13 : decode cX2_sort 13 = .ok (.istore_n 3, 1) := by decide +kernel
theorem dX2_sort_14 : decode cX2_sort 14 = .ok (.iload_n 3, 1) := by decide +kernel
theorem dX2_sort_15 : decode cX2_sort 15 = .ok (.ifCond .le 26, 3) := by decide +kernel
theorem dX2_sort_18 : decode cX2_sort 18 = .ok (.aload_n 0, 1) := by decide +kernel
theorem dX2_sort_19 : decode cX2_sort 19 = .ok (.iload_n 3, 1) := by decide +kernel
theorem dX2_sort_20 : decode cX2_sort 20 = .ok (.iconst 1, 1) := by decide +kernel
theorem dX2_sort_21 : decode cX2_sort 21 = .ok (.isub, 1) := by decide +kernel
theorem dX2_sort_22 : decode cX2_sort 22 = .ok (.iaload, 1) := by decide +kernel
theorem dX2_sort_23 : decode cX2_sort 23 = .ok (.iload_n 2, 1) := by decide +kernel
theorem dX2_sort_24 : decode cX2_sort 24 = .ok (.if_icmp .le 17, 3) := by decide +kernel
theorem dX2_sort_27 : decode cX2_sort 27 = .ok (.aload_n 0, 1) := by decide +kernel
theorem dX2_sort_28 : decode cX2_sort 28 = .ok (.iload_n 3, 1) := by decide +kernel
theorem dX2_sort_29 : decode cX2_sort 29 = .ok (.aload_n 0, 1) := by decide +kernel
theorem dX2_sort_30 : decode cX2_sort 30 = .ok (.iload_n 3, 1) := by decide +kernel
theorem dX2_sort_31 : decode cX2_sort 31 = .ok (.iconst 1, 1) := by decide +kernel
theorem dX2_sort_32 : decode cX2_sort 32 = .ok (.isub, 1) := by decide +kernel
theorem dX2_sort_33 : decode cX2_sort 33 = .ok (.iaload, 1) := by decide +kernel
theorem dX2_sort_34 : decode cX2_sort 34 = .ok (.iastore, 1) := by decide +kernel
theorem dX2_sort_35 : decode cX2_sort 35 = .ok (.iinc 3 (-1), 3) := by decide +kernel
theorem dX2_sort_38 : decode cX2_sort 38 = .ok (.goto (-24), 3) := by decide +kernel
theorem dX2_sort_41 : decode cX2_sort 41 = .ok (.aload_n 0, 1) := by decide +kernel
theorem dX2_sort_42 : decode cX2_sort 42 = .ok (.iload_n 3, 1) := by decide +kernel
theorem dX2_sort_43 : decode cX2_sort 43 = .ok (.iload_n 2, 1) := by decide +kernel
theorem dX2_sort_44 : decode cX2_sort 44 = .ok (.iastore, 1) := by decide +kernel
theorem dX2_sort_45 : decode cX2_sort 45 = .ok (.iinc 1 1, 3) := by decide +kernel
theorem dX2_sort_48 : decode cX2_sort 48 = .ok (.goto (-46), 3) := by decide +kernel
theorem dX2_sort_51 : decode cX2_sort 51 = .ok (.return_, 1) := by decide +kernel
theorem dX2_readPicked_0 : decode cX2_readPicked 0 = .ok (.aload_n 1, 1) := by decide +kernel
theorem dX2_readPicked_1 : decode cX2_readPicked 1 = .ok (.invokevirtual 162, 3) := by decide +kernel
theorem dX2_readPicked_4 : decode cX2_readPicked 4 = .ok (.astore_n 3, 1) := by decide +kernel
theorem dX2_readPicked_5 : decode cX2_readPicked 5 = .ok (.aload_n 1, 1) := by decide +kernel
theorem dX2_readPicked_6 : decode cX2_readPicked 6 = .ok (.getfield 183, 3) := by decide +kernel
theorem dX2_readPicked_9 : decode cX2_readPicked 9 = .ok (.ifCond .le 12, 3) := by decide +kernel
theorem dX2_readPicked_12 : decode cX2_readPicked 12 = .ok (.aload_n 0, 1) := by decide +kernel
theorem dX2_readPicked_13 : decode cX2_readPicked 13 = .ok (.aload_n 1, 1) := by decide +kernel
theorem dX2_readPicked_14 : decode cX2_readPicked 14 = .ok (.iconst 0, 1) := by decide +kernel
theorem dX2_readPicked_15 : decode cX2_readPicked 15 = .ok (.invokevirtual 186, 3) := by decide +kernel
theorem dX2_readPicked_18 : decode cX2_readPicked 18 = .ok (.goto 4, 3) := by decide +kernel
theorem dX2_readPicked_21 : decode cX2_readPicked 21 = .ok (.aconst_null, 1) := by decide +kernel
theorem dX2_readPicked_22 : decode cX2_readPicked 22 = .ok (.astore 4, 2) := by decide +kernel
theorem dX2_readPicked_24 : decode cX2_readPicked 24 = .ok (.aload 4, 2) := by decide +kernel
theorem dX2_readPicked_26 : decode cX2_readPicked 26 = .ok (.ifnull 6, 3) := by decide +kernel
theorem dX2_readPicked_29 : decode cX2_readPicked 29 = .ok (.aload 4, 2) := by decide +kernel
theorem dX2_readPicked_31 : decode cX2_readPicked 31 = .ok (.areturn, 1) := by decide +kernel
theorem dX2_readPicked_32 : decode cX2_readPicked 32 = .ok (.aload_n 3, 1) := by decide +kernel
theorem dX2_readPicked_33 : decode cX2_readPicked 33 = .ok (.iconst 0, 1) := by decide +kernel
theorem dX2_readPicked_34 : decode cX2_readPicked 34 = .ok (.invokevirtual 151, 3) := by decide +kernel
theorem dX2_readPicked_37 : decode cX2_readPicked 37 = .ok (.astore 5, 2) := by decide +kernel
theorem dX2_readPicked_39 : decode cX2_readPicked 39 = .ok (.aload_n 1, 1) := by decide +kernel
theorem dX2_readPicked_40 : decode cX2_readPicked 40 = .ok (.getfield 183, 3) := by decide +kernel
theorem dX2_readPicked_43 : decode cX2_readPicked 43 = .ok (.iconst 1, 1) := by decide +kernel
theorem dX2_readPicked_44 : decode cX2_readPicked 44 = .ok (.isub, 1) := by decide +kernel
theorem dX2_readPicked_45 : decode cX2_readPicked 45 = .ok (.istore 6, 2) := by decide +kernel
theorem dX2_readPicked_47 : decode cX2_readPicked 47 = .ok (.iconst 0, 1) := by decide +kernel
theorem dX2_readPicked_48 : decode cX2_readPicked 48 = .ok (.istore 7, 2) := by decide +kernel
theorem dX2_readPicked_50 : decode cX2_readPicked 50 = .ok (.iconst 0, 1) := by decide +kernel
theorem dX2_readPicked_51 : decode cX2_readPicked 51 = .ok (.istore 8, 2) := by decide +kernel
theorem dX2_readPicked_53 : decode cX2_readPicked 53 = .ok (.aload 5, 2) := by decide +kernel
theorem dX2_readPicked_55 : decode cX2_readPicked 55 = .ok (.ifnull 86, 3) := by decide +kernel
theorem dX2_readPicked_58 : decode cX2_readPicked 58 = .ok (.iload 6, 2) := by decide +kernel
theorem dX2_readPicked_60 : decode cX2_readPicked 60 = .ok (.ifCond .le 81, 3) := by decide +kernel
theorem dX2_readPicked_63 : decode cX2_readPicked 63 = .ok (.iload 8, 2) := by decide +kernel
theorem dX2_readPicked_65 : decode cX2_readPicked 65 = .ok (.aload 5, 2) := by decide +kernel
theorem dX2_readPicked_67 : decode cX2_readPicked 67 = .ok (.getfield 70, 3) := by decide +kernel
theorem dX2_readPicked_70 : decode cX2_readPicked 70 = .ok (.arraylength, 1) := by decide +kernel
theorem dX2_readPicked_71 : decode cX2_readPicked 71 = .ok (.if_icmp .ge 70, 3) := by decide +kernel
theorem dX2_readPicked_74 : decode cX2_readPicked 74 = .ok (.iload 8, 2) := by decide +kernel
theorem dX2_readPicked_76 : decode cX2_readPicked 76 = .ok (.iload_n 2, 1) := by decide +kernel
theorem dX2_readPicked_77 : decode cX2_readPicked 77 = .ok (.if_icmp .ge 64, 3) := by decide +kernel
theorem dX2_readPicked_80 : decode cX2_readPicked 80 = .ok (.aload_n 0, 1) := by decide +kernel
theorem dX2_readPicked_81 : decode cX2_readPicked 81 = .ok (.aload_n 1, 1) := by decide +kernel
theorem dX2_readPicked_82 : decode cX2_readPicked 82 = .ok (.iconst 1, 1) := by decide +kernel
theorem dX2_readPicked_83 : decode cX2_readPicked 83 = .ok (.aload 5, 2) := by decide +kernel
theorem dX2_readPicked_85 : decode cX2_readPicked 85 = .ok (.getfield 70, 3) := by decide +kernel
theorem dX2_readPicked_88 : decode cX2_readPicked 88 = .ok (.iload 8, 2) := by decide +kernel
theorem dX2_readPicked_90 : decode cX2_readPicked 90 = .ok (.iaload, 1) := by decide +kernel
theorem dX2_readPicked_91 : decode cX2_readPicked 91 = .ok (.iload 6, 2) := by decide +kernel
theorem dX2_readPicked_93 : decode cX2_readPicked 93 = .ok (.invokestatic 214, 3) := by decide +kernel
theorem dX2_readPicked_96 : decode cX2_readPicked 96 = .ok (.iadd, 1) := by decide +kernel
theorem dX2_readPicked_97 : decode cX2_readPicked 97 = .ok (.invokevirtual 186, 3) := by decide +kernel
theorem dX2_readPicked_100 : decode cX2_readPicked 100 = .ok (.astore 4, 2) := by decide +kernel
theorem dX2_readPicked_102 : decode cX2_readPicked 102 = .ok (.aload 4, 2) := by decide +kernel
theorem dX2_readPicked_104 : decode cX2_readPicked 104 = .ok (.ifnull 6, 3) := by decide +kernel
theorem dX2_readPicked_107 : decode cX2_readPicked 107 = .ok (.aload 4, 2) := by decide +kernel
theorem dX2_readPicked_109 : decode cX2_readPicked 109 = .ok (.areturn, 1) := by decide +kernel
theorem dX2_readPicked_110 : decode cX2_readPicked 110 = .ok (.iload 7, 2) := by decide +kernel
theorem dX2_readPicked_112 : decode cX2_readPicked 112 = .ok (.aload_n 3, 1) := by decide +kernel
theorem dX2_readPicked_113 : decode cX2_readPicked 113 = .ok (.iconst 1, 1) := by decide +kernel
theorem dX2_readPicked_114 : decode cX2_readPicked 114 = .ok (.iload 8, 2) := by decide +kernel
theorem dX2_readPicked_116 : decode cX2_readPicked 116 = .ok (.iadd, 1) := by decide +kernel
theorem dX2_readPicked_117 : decode cX2_readPicked 117 = .ok (.invokevirtual 189, 3) := by decide +kernel
theorem dX2_readPicked_120 : decode cX2_readPicked 120 = .ok (.iadd, 1) := by decide +kernel
theorem dX2_readPicked_121 : decode cX2_readPicked 121 = .ok (.istore 7, 2) := by decide +kernel
theorem dX2_readPicked_123 : decode cX2_readPicked 123 = .ok (.iload 7, 2) := by decide +kernel
theorem dX2_readPicked_125 : decode cX2_readPicked 125 = .ok (.bipush 24, 2) := by decide +kernel
theorem dX2_readPicked_127 : decode cX2_readPicked 127 = .ok (.if_icmp .le 8, 3) := by decide +kernel
theorem dX2_readPicked_130 : decode cX2_readPicked 130 = .ok (.aload_n 1, 1) := by decide +kernel
theorem dX2_readPicked_131 : decode cX2_readPicked 131 = .ok (.getfield 192, 3) := by decide +kernel
theorem dX2_readPicked_134 : decode cX2_readPicked 134 = .ok (.areturn, 1) := by decide +kernel
theorem dX2_readPicked_135 : decode cX2_readPicked 135 = .ok (.iinc 8 1, 3) := by decide +kernel
theorem dX2_readPicked_138 : decode cX2_readPicked 138 = .ok (.goto (-85), 3) := by decide +kernel
theorem dX2_readPicked_141 : decode cX2_readPicked 141 = .ok (.new 62, 3) := by decide +kernel
theorem dX2_readPicked_144 : decode cX2_readPicked 144 = .ok (.dup, 1) := by decide +kernel
theorem dX2_readPicked_145 : decode cX2_readPicked 145 = .ok (.iconst 0, 1) := by decide +kernel
theorem dX2_readPicked_146 : decode cX2_readPicked 146 = .ok (.iconst 0, 1) := by decide +kernel
theorem dX2_readPicked_147 : decode cX2_readPicked 147 = .ok (.aload_n 3, 1) := by decide +kernel
theorem dX2_readPicked_148 : decode cX2_readPicked 148 = .ok (.iconst 1, 1) := by decide +kernel
theorem dX2_readPicked_149 : decode cX2_readPicked 149 = .ok (.invokevirtual 206, 3) := by decide +kernel
theorem dX2_readPicked_152 : decode cX2_readPicked 152 = .ok (.invokespecial 199, 3) := by decide +kernel
theorem dX2_readPicked_155 : decode cX2_readPicked 155 = .ok (.areturn, 1) := by decide +kernel
theorem dX2_readInput_0 : decode cX2_readInput 0 = .ok (.aload_n 1, 1) := by decide +kernel
theorem dX2_readInput_1 : decode cX2_readInput 1 = .ok (.getfield 220, 3) := by decide +kernel
theorem dX2_readInput_4 : decode cX2_readInput 4 = .ok (.iload_n 2, 1) := by decide +kernel
theorem dX2_readInput_5 : decode cX2_readInput 5 = .ok (.iaload, 1) := by decide +kernel
theorem dX2_readInput_6 : decode cX2_readInput 6 = .ok (.istore_n 3, 1) := by decide +kernel
theorem dX2_readInput_7 : decode cX2_readInput 7 = .ok (.aload_n 0, 1) := by decide +kernel
theorem dX2_readInput_8 : decode cX2_readInput 8 = .ok (.iload_n 3, 1) := by decide +kernel
theorem dX2_readInput_9 : decode cX2_readInput 9 = .ok (.invokevirtual 147, 3) := by decide +kernel
theorem dX2_readInput_12 : decode cX2_readInput 12 = .ok (.astore 4, 2) := by decide +kernel
theorem dX2_readInput_14 : decode cX2_readInput 14 = .ok (.aload_n 1, 1) := by decide +kernel
theorem dX2_readInput_15 : decode cX2_readInput 15 = .ok (.invokevirtual 162, 3) := by decide +kernel
theorem dX2_readInput_18 : decode cX2_readInput 18 = .ok (.iload_n 3, 1) := by decide +kernel
theorem dX2_readInput_19 : decode cX2_readInput 19 = .ok (.aload 4, 2) := by decide +kernel
theorem dX2_readInput_21 : decode cX2_readInput 21 = .ok (.invokevirtual 223, 3) := by decide +kernel
theorem dX2_readInput_24 : decode cX2_readInput 24 = .ok (.aload_n 1, 1) := by decide +kernel
theorem dX2_readInput_25 : decode cX2_readInput 25 = .ok (.getfield 108, 3) := by decide +kernel
theorem dX2_readInput_28 : decode cX2_readInput 28 = .ok (.ifnull 8, 3) := by decide +kernel
theorem dX2_readInput_31 : decode cX2_readInput 31 = .ok (.aload_n 1, 1) := by decide +kernel
theorem dX2_readInput_32 : decode cX2_readInput 32 = .ok (.getfield 108, 3) := by decide +kernel
theorem dX2_readInput_35 : decode cX2_readInput 35 = .ok (.areturn, 1) := by decide +kernel
theorem dX2_readInput_36 : decode cX2_readInput 36 = .ok (.aload_n 1, 1) := by decide +kernel
theorem dX2_readInput_37 : decode cX2_readInput 37 = .ok (.getfield 227, 3) := by decide +kernel
theorem dX2_readInput_40 : decode cX2_readInput 40 = .ok (.ifCond .eq 16, 3) := by decide +kernel
theorem dX2_readInput_43 : decode cX2_readInput 43 = .ok (.aload 4, 2) := by decide +kernel
theorem dX2_readInput_45 : decode cX2_readInput 45 = .ok (.invokevirtual 61, 3) := by decide +kernel
theorem dX2_readInput_48 : decode cX2_readInput 48 = .ok (.ifCond .eq 8, 3) := by decide +kernel
theorem dX2_readInput_51 : decode cX2_readInput 51 = .ok (.aload 4, 2) := by decide +kernel
theorem dX2_readInput_53 : decode cX2_readInput 53 = .ok (.goto 4, 3) := by decide +kernel
theorem dX2_readInput_56 : decode cX2_readInput 56 = .ok (.aconst_null, 1) := by decide +kernel
theorem dX2_readInput_57 : decode cX2_readInput 57 = .ok (.areturn, 1) := by decide +kernel
