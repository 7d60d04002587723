theorem dX7_of_63 : decode cX7_of 63 = .ok (.aload_n 0, 1) := by decide +kernel
theorem dX7_of_64 : decode cX7_of 64 = .ok (.getfield 25, 3) := by decide +kernel
theorem dX7_of_67 : decode cX7_of 67 = .ok (.iload_n 1, 1) := by decide +kernel
theorem dX7_of_68 : decode cX7_of 68 = .ok (.baload, 1) := by decide +kernel
theorem dX7_of_69 : decode cX7_of 69 = .ok (.ifCond .eq 7, 3) := by decide +kernel
theorem dX7_of_72 : decode cX7_of 72 = .ok (.iconst 1, 1) := by decide +kernel
theorem dX7_of_73 : decode cX7_of 73 = .ok (.goto 4, 3) := by decide +kernel
theorem dX7_of_76 : decode cX7_of 76 = .ok (.iconst 0, 1) := by decide +kernel
theorem dX7_of_77 : decode cX7_of 77 = .ok (.ireturn, 1) := by decide +kernel
theorem dX7_of_78 : decode cX7_of 78 = .ok (.aload_n 0, 1) := by decide +kernel
theorem dX7_of_79 : decode cX7_of 79 = .ok (.getfield 19, 3) := by decide +kernel
theorem dX7_of_82 : decode cX7_of 82 = .ok (.iload_n 1, 1) := by decide +kernel
theorem dX7_of_83 : decode cX7_of 83 = .ok (.iaload, 1) := by decide +kernel
theorem dX7_of_84 : decode cX7_of 84 = .ok (.ireturn, 1) := by decide +kernel
theorem dX7_of_85 : decode cX7_of 85 = .ok (.aload_n 0, 1) := by decide +kernel
theorem dX7_of_86 : decode cX7_of 86 = .ok (.getfield 29, 3) := by decide +kernel
theorem dX7_of_89 : decode cX7_of 89 = .ok (.iload_n 1, 1) := by decide +kernel
theorem dX7_of_90 : decode cX7_of 90 = .ok (.iaload, 1) := by decide +kernel
theorem dX7_of_91 : decode cX7_of 91 = .ok (.ireturn, 1) := by decide +kernel
theorem dX7_of_92 : decode cX7_of 92 = .ok (.iload_n 2, 1) := by decide +kernel
theorem dX7_of_93 : decode cX7_of 93 = .ok (.iconst 4, 1) := by decide +kernel
theorem dX7_of_94 : decode cX7_of 94 = .ok (.isub, 1) := by decide +kernel
theorem dX7_of_95 : decode cX7_of 95 = .ok (.aload_n 0, 1) := by decide +kernel
theorem dX7_of_96 : decode cX7_of 96 = .ok (.getfield 19, 3) := by decide +kernel
theorem dX7_of_99 : decode cX7_of 99 = .ok (.iload_n 1, 1) := by decide +kernel
theorem dX7_of_100 : decode cX7_of 100 = .ok (.iaload, 1) := by decide +kernel
theorem dX7_of_101 : decode cX7_of 101 = .ok (.if_icmp .ge 19, 3) := by decide +kernel
theorem dX7_of_104 : decode cX7_of 104 = .ok (.aload_n 0, 1) := by decide +kernel
theorem dX7_of_105 : decode cX7_of 105 = .ok (.getfield 22, 3) := by decide +kernel
theorem dX7_of_108 : decode cX7_of 108 = .ok (.bipush 6, 2) := by decide +kernel
theorem dX7_of_110 : decode cX7_of 110 = .ok (.iload_n 1, 1) := by decide +kernel
theorem dX7_of_111 : decode cX7_of 111 = .ok (.imul, 1) := by decide +kernel
theorem dX7_of_112 : decode cX7_of 112 = .ok (.iload_n 2, 1) := by decide +kernel
theorem dX7_of_113 : decode cX7_of 113 = .ok (.iadd, 1) := by decide +kernel
theorem dX7_of_114 : decode cX7_of 114 = .ok (.iconst 4, 1) := by decide +kernel
theorem dX7_of_115 : decode cX7_of 115 = .ok (.isub, 1) := by decide +kernel
theorem dX7_of_116 : decode cX7_of 116 = .ok (.iaload, 1) := by decide +kernel
theorem dX7_of_117 : decode cX7_of 117 = .ok (.goto 4, 3) := by decide +kernel
theorem dX7_of_120 : decode cX7_of 120 = .ok (.iconst (-1), 1) := by decide +kernel
theorem dX7_of_121 : decode cX7_of 121 = .ok (.ireturn, 1) := by decide +kernel
theorem dX7_trace_0 : decode cX7_trace 0 = .ok (.aload_n 0, 1) := by decide +kernel
theorem dX7_trace_1 : decode cX7_trace 1 = .ok (.iload_n 1, 1) := by decide +kernel
theorem dX7_trace_2 : decode cX7_trace 2 = .ok (.invokevirtual 168, 3) := by decide +kernel
theorem dX7_trace_5 : decode cX7_trace 5 = .ok (.ifCond .eq 22, 3) := by decide +kernel
theorem dX7_trace_8 : decode cX7_trace 8 = .ok (.iload_n 2, 1) := by decide +kernel
theorem dX7_trace_9 : decode cX7_trace 9 = .ok (.ifCond .lt 18, 3) := by decide +kernel
theorem dX7_trace_12 : decode cX7_trace 12 = .ok (.iload_n 2, 1) := by decide +kernel
theorem dX7_trace_13 : decode cX7_trace 13 = .ok (.aload_n 0, 1) := by decide +kernel
theorem dX7_trace_14 : decode cX7_trace 14 = .ok (.getfield 29, 3) := by decide +kernel
theorem dX7_trace_17 : decode cX7_trace 17 = .ok (.iload_n 1, 1) := by decide +kernel
theorem dX7_trace_18 : decode cX7_trace 18 = .ok (.iaload, 1) := by decide +kernel
theorem dX7_trace_19 : decode cX7_trace 19 = .ok (.if_icmp .ge 8, 3) := by decide +kernel
theorem dX7_trace_22 : decode cX7_trace 22 = .ok (.iload_n 3, 1) := by decide +kernel
theorem dX7_trace_23 : decode cX7_trace 23 = .ok (.iconst (-1), 1) := by decide +kernel
theorem dX7_trace_24 : decode cX7_trace 24 = .ok (.if_icmp .ge 5, 3) := by decide +kernel
theorem dX7_trace_27 : decode cX7_trace 27 = .ok (.iconst (-1), 1) := by decide +kernel
theorem dX7_trace_28 : decode cX7_trace 28 = .ok (.ireturn, 1) := by decide +kernel
theorem dX7_trace_29 : decode cX7_trace 29 = .ok (.aload_n 0, 1) := by decide +kernel
theorem dX7_trace_30 : decode cX7_trace 30 = .ok (.iload_n 1, 1) := by decide +kernel
theorem dX7_trace_31 : decode cX7_trace 31 = .ok (.iload_n 2, 1) := by decide +kernel
theorem dX7_trace_32 : decode cX7_trace 32 = .ok (.invokevirtual 174, 3) := by decide +kernel
theorem dX7_trace_35 : decode cX7_trace 35 = .ok (.istore 4, 2) := by decide +kernel
theorem dX7_trace_37 : decode cX7_trace 37 = .ok (.iload_n 3, 1) := by decide +kernel
theorem dX7_trace_38 : decode cX7_trace 38 = .ok (.iconst (-1), 1) := by decide +kernel
theorem dX7_trace_39 : decode cX7_trace 39 = .ok (.if_icmp .ne 11, 3) := by decide +kernel
theorem dX7_trace_42 : decode cX7_trace 42 = .ok (.aload_n 0, 1) := by decide +kernel
theorem dX7_trace_43 : decode cX7_trace 43 = .ok (.getfield 35, 3) := by decide +kernel
theorem dX7_trace_46 : decode cX7_trace 46 = .ok (.iload 4, 2) := by decide +kernel
theorem dX7_trace_48 : decode cX7_trace 48 = .ok (.iaload, 1) := by decide +kernel
theorem dX7_trace_49 : decode cX7_trace 49 = .ok (.ireturn, 1) := by decide +kernel
theorem dX7_trace_50 : decode cX7_trace 50 = .ok (.iload_n 3, 1) := by decide +kernel
theorem dX7_trace_51 : decode cX7_trace 51 = .ok (.aload_n 0, 1) := by decide +kernel
theorem dX7_trace_52 : decode cX7_trace 52 = .ok (.getfield 35, 3) := by decide +kernel
theorem dX7_trace_55 : decode cX7_trace 55 = .ok (.iload 4, 2) := by decide +kernel
theorem dX7_trace_57 : decode cX7_trace 57 = .ok (.iaload, 1) := by decide +kernel
theorem dX7_trace_58 : decode cX7_trace 58 = .ok (.if_icmp .ge 18, 3) := by decide +kernel
theorem dX7_trace_61 : decode cX7_trace 61 = .ok (.aload_n 0, 1) := by decide +kernel
theorem dX7_trace_62 : decode cX7_trace 62 = .ok (.getfield 50, 3) := by decide +kernel
theorem dX7_trace_65 : decode cX7_trace 65 = .ok (.bipush 25, 2) := by decide +kernel
theorem dX7_trace_67 : decode cX7_trace 67 = .ok (.iload 4, 2) := by decide +kernel
theorem dX7_trace_69 : decode cX7_trace 69 = .ok (.imul, 1) := by decide +kernel
theorem dX7_trace_70 : decode cX7_trace 70 = .ok (.iload_n 3, 1) := by decide +kernel
theorem dX7_trace_71 : decode cX7_trace 71 = .ok (.iadd, 1) := by decide +kernel
theorem dX7_trace_72 : decode cX7_trace 72 = .ok (.iaload, 1) := by decide +kernel
theorem dX7_trace_73 : decode cX7_trace 73 = .ok (.goto 4, 3) := by decide +kernel
theorem dX7_trace_76 : decode cX7_trace 76 = .ok (.iconst (-1), 1) := by decide +kernel
theorem dX7_trace_77 : decode cX7_trace 77 = .ok (.ireturn, 1) := by decide +kernel
theorem dX7_slotOf_0 : decode cX7_slotOf 0 = .ok (.iconst 4, 1) := by decide +kernel
theorem dX7_slotOf_1 : decode cX7_slotOf 1 = .ok (.iload_n 1, 1) := by decide +kernel
theorem dX7_slotOf_2 : decode cX7_slotOf 2 = .ok (.imul, 1) := by decide +kernel
theorem dX7_slotOf_3 : decode cX7_slotOf 3 = .ok (.aload_n 0, 1) := by decide +kernel
theorem dX7_slotOf_4 : decode cX7_slotOf 4 = .ok (.getfield 32, 3) := by decide +kernel
theorem dX7_slotOf_7 : decode cX7_slotOf 7 = .ok (.iconst 4, 1) := by decide +kernel
theorem dX7_slotOf_8 : decode cX7_slotOf 8 = .ok (.iload_n 1, 1) := by decide +kernel
theorem dX7_slotOf_9 : decode cX7_slotOf 9 = .ok (.imul, 1) := by decide +kernel
theorem dX7_slotOf_10 : decode cX7_slotOf 10 = .ok (.iload_n 2, 1) := by decide +kernel
theorem dX7_slotOf_11 : decode cX7_slotOf 11 = .ok (.iadd, 1) := by decide +kernel
theorem dX7_slotOf_12 : decode cX7_slotOf 12 = .ok (.iaload, 1) := by decide +kernel
theorem dX7_slotOf_13 : decode cX7_slotOf 13 = .ok (.iadd, 1) := by decide +kernel
theorem dX7_slotOf_14 : decode cX7_slotOf 14 = .ok (.ireturn, 1) := by decide +kernel
theorem dX7_gotFailure_0 : decode cX7_gotFailure 0 = .ok (.aload_n 0, 1) := by decide +kernel
theorem dX7_gotFailure_1 : decode cX7_gotFailure 1 = .ok (.iconst 0, 1) := by decide +kernel
theorem dX7_gotFailure_2 : decode cX7_gotFailure 2 = .ok (.putfield 178, 3) := by decide +kernel
theorem dX7_gotFailure_5 : decode cX7_gotFailure 5 = .ok (.aload_n 0, 1) := by decide +kernel
theorem dX7_gotFailure_6 : decode cX7_gotFailure 6 = .ok (.iload_n 1, 1) := by decide +kernel
theorem dX7_gotFailure_7 : decode cX7_gotFailure 7 = .ok (.putfield 181, 3) := by decide +kernel
theorem dX7_gotFailure_10 : decode cX7_gotFailure 10 = .ok (.aload_n 0, 1) := by decide +kernel
theorem dX7_gotFailure_11 : decode cX7_gotFailure 11 = .ok (.iload_n 2, 1) := by decide +kernel
theorem dX7_gotFailure_12 : decode cX7_gotFailure 12 = .ok (.putfield 184, 3) := by decide +kernel
theorem dX7_gotFailure_15 : decode cX7_gotFailure 15 = .ok (.return_, 1) := by decide +kernel
theorem dX7_gotRow_0 : decode cX7_gotRow 0 = .ok (.aload_n 0, 1) := by decide +kernel
theorem dX7_gotRow_1 : decode cX7_gotRow 1 = .ok (.iload_n 3, 1) := by decide +kernel
theorem dX7_gotRow_2 : decode cX7_gotRow 2 = .ok (.putfield 178, 3) := by decide +kernel
theorem dX7_gotRow_5 : decode cX7_gotRow 5 = .ok (.aload_n 0, 1) := by decide +kernel
theorem dX7_gotRow_6 : decode cX7_gotRow 6 = .ok (.iconst 0, 1) := by decide +kernel
theorem dX7_gotRow_7 : decode cX7_gotRow 7 = .ok (.putfield 181, 3) := by decide +kernel
theorem dX7_gotRow_10 : decode cX7_gotRow 10 = .ok (.aload_n 0, 1) := by decide +kernel
theorem dX7_gotRow_11 : decode cX7_gotRow 11 = .ok (.iconst 0, 1) := by decide +kernel
theorem dX7_gotRow_12 : decode cX7_gotRow 12 = .ok (.putfield 184, 3) := by decide +kernel
theorem dX7_gotRow_15 : decode cX7_gotRow 15 = .ok (.iconst 0, 1) := by decide +kernel
theorem dX7_gotRow_16 : decode cX7_gotRow 16 = .ok (.istore 4, 2) := by decide +kernel
theorem dX7_gotRow_18 : decode cX7_gotRow 18 = .ok (.iload 4, 2) := by decide +kernel
theorem dX7_gotRow_20 : decode cX7_gotRow 20 = .ok (.iload_n 3, 1) := by decide +kernel
theorem dX7_gotRow_21 : decode cX7_gotRow 21 = .ok (.if_icmp .ge 22, 3) := by decide +kernel
theorem dX7_gotRow_24 : decode cX7_gotRow 24 = .ok (.aload_n 0, 1) := by decide +kernel
theorem dX7_gotRow_25 : decode cX7_gotRow 25 = .ok (.getfield 135, 3) := by decide +kernel
theorem dX7_gotRow_28 : decode cX7_gotRow 28 = .ok (.iload 4, 2) := by decide +kernel
theorem dX7_gotRow_30 : decode cX7_gotRow 30 = .ok (.aload_n 1, 1) := by decide +kernel
theorem dX7_gotRow_31 : decode cX7_gotRow 31 = .ok (.iload_n 2, 1) := by decide +kernel
theorem dX7_gotRow_32 : decode cX7_gotRow 32 = .ok (.iload 4, 2) := by decide +kernel
theorem dX7_gotRow_34 : decode cX7_gotRow 34 = .ok (.iadd, 1) := by decide +kernel
theorem dX7_gotRow_35 : decode cX7_gotRow 35 = .ok (.iaload, 1) := by decide +kernel
theorem dX7_gotRow_36 : decode cX7_gotRow 36 = .ok (.iastore, 1) := by decide +kernel
theorem dX7_gotRow_37 : decode cX7_gotRow 37 = .ok (.iinc 4 1, 3) := by decide +kernel
theorem dX7_gotRow_40 : decode cX7_gotRow 40 = .ok (.goto (-22), 3) := by decide +kernel
theorem dX7_gotRow_43 : decode cX7_gotRow 43 = .ok (.return_, 1) := by decide +kernel
theorem dX7_get_0 : decode cX7_get 0 = .ok (.iload_n 1, 1) := by decide +kernel
theorem dX7_get_1 : decode cX7_get 1 = .ok (.bipush 16, 2) := by decide +kernel
theorem dX7_get_3 : decode cX7_get 3 = .ok (.if_icmp .ge 42, 3) := by decide +kernel
theorem dX7_get_6 : decode cX7_get 6 = .ok (.aload_n 0, 1) := by decide +kernel
theorem dX7_get_7 : decode cX7_get 7 = .ok (.getfield 7, 3) := by decide +kernel
theorem dX7_get_10 : decode cX7_get 10 = .ok (.iload_n 1, 1) := by decide +kernel
theorem dX7_get_11 : decode cX7_get 11 = .ok (.iaload, 1) := by decide +kernel
theorem dX7_get_12 : decode cX7_get 12 = .ok (.iconst (-1), 1) := by decide +kernel
theorem dX7_get_13 : decode cX7_get 13 = .ok (.if_icmp .ne 12, 3) := by decide +kernel
theorem dX7_get_16 : decode cX7_get 16 = .ok (.aload_n 0, 1) := by decide +kernel
theorem dX7_get_17 : decode cX7_get 17 = .ok (.iconst 1, 1) := by decide +kernel
theorem dX7_get_18 : decode cX7_get 18 = .ok (.iload_n 1, 1) := by decide +kernel
theorem dX7_get_19 : decode cX7_get 19 = .ok (.invokevirtual 187, 3) := by decide +kernel
theorem dX7_get_22 : decode cX7_get 22 = .ok (.goto 21, 3) := by decide +kernel
theorem dX7_get_25 : decode cX7_get 25 = .ok (.aload_n 0, 1) := by decide +kernel
theorem dX7_get_26 : decode cX7_get 26 = .ok (.aload_n 0, 1) := by decide +kernel
theorem dX7_get_27 : decode cX7_get 27 = .ok (.getfield 13, 3) := by decide +kernel
theorem dX7_get_30 : decode cX7_get 30 = .ok (.bipush 16, 2) := by decide +kernel
theorem dX7_get_32 : decode cX7_get 32 = .ok (.iload_n 1, 1) := by decide +kernel
theorem dX7_get_33 : decode cX7_get 33 = .ok (.imul, 1) := by decide +kernel
theorem dX7_get_34 : decode cX7_get 34 = .ok (.aload_n 0, 1) := by decide +kernel
theorem dX7_get_35 : decode cX7_get 35 = .ok (.getfield 7, 3) := by decide +kernel
theorem dX7_get_38 : decode cX7_get 38 = .ok (.iload_n 1, 1) := by decide +kernel
theorem dX7_get_39 : decode cX7_get 39 = .ok (.iaload, 1) := by decide +kernel
theorem dX7_get_40 : decode cX7_get 40 = .ok (.invokevirtual 191, 3) := by decide +kernel
theorem dX7_get_43 : decode cX7_get 43 = .ok (.iconst 1, 1) := by decide +kernel
theorem dX7_get_44 : decode cX7_get 44 = .ok (.ireturn, 1) := by decide +kernel
theorem dX7_get_45 : decode cX7_get 45 = .ok (.iload_n 1, 1) := by decide +kernel
theorem dX7_get_46 : decode cX7_get 46 = .ok (.bipush 16, 2) := by decide +kernel
theorem dX7_get_48 : decode cX7_get 48 = .ok (.isub, 1) := by decide +kernel
theorem dX7_get_49 : decode cX7_get 49 = .ok (.istore_n 2, 1) := by decide +kernel
theorem dX7_get_50 : decode cX7_get 50 = .ok (.iload_n 2, 1) := by decide +kernel
theorem dX7_get_51 : decode cX7_get 51 = .ok (.aload_n 0, 1) := by decide +kernel
theorem dX7_get_52 : decode cX7_get 52 = .ok (.getfield 157, 3) := by decide +kernel
theorem dX7_get_55 : decode cX7_get 55 = .ok (.if_icmp .lt 12, 3) := by decide +kernel
theorem dX7_get_58 : decode cX7_get 58 = .ok (.aload_n 0, 1) := by decide +kernel
theorem dX7_get_59 : decode cX7_get 59 = .ok (.iconst 4, 1) := by decide +kernel
theorem dX7_get_60 : decode cX7_get 60 = .ok (.iload_n 1, 1) := by decide +kernel
theorem dX7_get_61 : decode cX7_get 61 = .ok (.invokevirtual 187, 3) := by decide +kernel
theorem dX7_get_64 : decode cX7_get 64 = .ok (.goto 85, 3) := by decide +kernel
theorem dX7_get_67 : decode cX7_get 67 = .ok (.aload_n 0, 1) := by decide +kernel
theorem dX7_get_68 : decode cX7_get 68 = .ok (.getfield 81, 3) := by decide +kernel
theorem dX7_get_71 : decode cX7_get 71 = .ok (.iload_n 2, 1) := by decide +kernel
theorem dX7_get_72 : decode cX7_get 72 = .ok (.baload, 1) := by decide +kernel
theorem dX7_get_73 : decode cX7_get 73 = .ok (.ifCond .eq 52, 3) := by decide +kernel
theorem dX7_get_76 : decode cX7_get 76 = .ok (.aload_n 0, 1) := by decide +kernel
theorem dX7_get_77 : decode cX7_get 77 = .ok (.getfield 69, 3) := by decide +kernel
theorem dX7_get_80 : decode cX7_get 80 = .ok (.iload_n 2, 1) := by decide +kernel
theorem dX7_get_81 : decode cX7_get 81 = .ok (.iaload, 1) := by decide +kernel
theorem dX7_get_82 : decode cX7_get 82 = .ok (.ifCond .eq 22, 3) := by decide +kernel
theorem dX7_get_85 : decode cX7_get 85 = .ok (.aload_n 0, 1) := by decide +kernel
theorem dX7_get_86 : decode cX7_get 86 = .ok (.aload_n 0, 1) := by decide +kernel
theorem dX7_get_87 : decode cX7_get 87 = .ok (.getfield 69, 3) := by decide +kernel
theorem dX7_get_90 : decode cX7_get 90 = .ok (.iload_n 2, 1) := by decide +kernel
theorem dX7_get_91 : decode cX7_get 91 = .ok (.iaload, 1) := by decide +kernel
theorem dX7_get_92 : decode cX7_get 92 = .ok (.aload_n 0, 1) := by decide +kernel
theorem dX7_get_93 : decode cX7_get 93 = .ok (.getfield 72, 3) := by decide +kernel
theorem dX7_get_96 : decode cX7_get 96 = .ok (.iload_n 2, 1) := by decide +kernel
theorem dX7_get_97 : decode cX7_get 97 = .ok (.iaload, 1) := by decide +kernel
theorem dX7_get_98 : decode cX7_get 98 = .ok (.invokevirtual 187, 3) := by decide +kernel
theorem dX7_get_101 : decode cX7_get 101 = .ok (.goto 48, 3) := by decide +kernel
theorem dX7_get_104 : decode cX7_get 104 = .ok (.aload_n 0, 1) := by decide +kernel
theorem dX7_get_105 : decode cX7_get 105 = .ok (.aload_n 0, 1) := by decide +kernel
theorem dX7_get_106 : decode cX7_get 106 = .ok (.getfield 75, 3) := by decide +kernel
theorem dX7_get_109 : decode cX7_get 109 = .ok (.bipush 24, 2) := by decide +kernel
theorem dX7_get_111 : decode cX7_get 111 = .ok (.iload_n 2, 1) := by decide +kernel
theorem dX7_get_112 : decode cX7_get 112 = .ok (.imul, 1) := by decide +kernel
theorem dX7_get_113 : decode cX7_get 113 = .ok (.aload_n 0, 1) := by decide +kernel
theorem dX7_get_114 : decode cX7_get 114 = .ok (.getfield 66, 3) := by decide +kernel
theorem dX7_get_117 : decode cX7_get 117 = .ok (.iload_n 2, 1) := by decide +kernel
theorem dX7_get_118 : decode cX7_get 118 = .ok (.iaload, 1) := by decide +kernel
theorem dX7_get_119 : decode cX7_get 119 = .ok (.invokevirtual 191, 3) := by decide +kernel
theorem dX7_get_122 : decode cX7_get 122 = .ok (.goto 27, 3) := by decide +kernel
theorem dX7_get_125 : decode cX7_get 125 = .ok (.aload_n 0, 1) := by decide +kernel
theorem dX7_get_126 : decode cX7_get 126 = .ok (.getfield 84, 3) := by decide +kernel
theorem dX7_get_129 : decode cX7_get 129 = .ok (.iload_n 2, 1) := by decide +kernel
theorem dX7_get_130 : decode cX7_get 130 = .ok (.baload, 1) := by decide +kernel
theorem dX7_get_131 : decode cX7_get 131 = .ok (.ifCond .eq 11, 3) := by decide +kernel
theorem dX7_get_134 : decode cX7_get 134 = .ok (.aload_n 0, 1) := by decide +kernel
theorem dX7_get_135 : decode cX7_get 135 = .ok (.iload_n 2, 1) := by decide +kernel
theorem dX7_get_136 : decode cX7_get 136 = .ok (.invokevirtual 195, 3) := by decide +kernel
theorem dX7_get_139 : decode cX7_get 139 = .ok (.goto 10, 3) := by decide +kernel
theorem dX7_get_142 : decode cX7_get 142 = .ok (.aload_n 0, 1) := by decide +kernel
theorem dX7_get_143 : decode cX7_get 143 = .ok (.iload_n 2, 1) := by decide +kernel
theorem dX7_get_144 : decode cX7_get 144 = .ok (.invokevirtual 199, 3) := by decide +kernel
theorem dX7_get_147 : decode cX7_get 147 = .ok (.iconst 0, 1) := by decide +kernel
theorem dX7_get_148 : decode cX7_get 148 = .ok (.ireturn, 1) := by decide +kernel
theorem dX7_get_149 : decode cX7_get 149 = .ok (.iconst 1, 1) := by decide +kernel
theorem dX7_get_150 : decode cX7_get 150 = .ok (.ireturn, 1) := by decide +kernel
theorem dX7_isRing_0 : decode cX7_isRing 0 = .ok (.iconst 0, 1) := by decide +kernel
theorem dX7_isRing_1 : decode cX7_isRing 1 = .ok (.istore_n 2, 1) := by decide +kernel
theorem dX7_isRing_2 : decode cX7_isRing 2 = .ok (.aload_n 0, 1) := by decide +kernel
theorem dX7_isRing_3 : decode cX7_isRing 3 = .ok (.getfield 202, 3) := by decide +kernel
theorem dX7_isRing_6 : decode cX7_isRing 6 = .ok (.iconst 1, 1) := by decide +kernel
theorem dX7_isRing_7 : decode cX7_isRing 7 = .ok (.isub, 1) := by decide +kernel
theorem dX7_isRing_8 : decode cX7_isRing 8 = .ok (.istore_n 3, 1) := by decide +kernel
theorem dX7_isRing_9 : decode cX7_isRing 9 = .ok (.aload_n 0, 1) := by decide +kernel
theorem dX7_isRing_10 : decode cX7_isRing 10 = .ok (.getfield 90, 3) := by decide +kernel
theorem dX7_isRing_13 : decode cX7_isRing 13 = .ok (.iload_n 3, 1) := by decide +kernel
theorem dX7_isRing_14 : decode cX7_isRing 14 = .ok (.iaload, 1) := by decide +kernel
theorem dX7_isRing_15 : decode cX7_isRing 15 = .ok (.iload_n 1, 1) := by decide +kernel
theorem dX7_isRing_16 : decode cX7_isRing 16 = .ok (.if_icmp .eq 20, 3) := by decide +kernel
theorem dX7_isRing_19 : decode cX7_isRing 19 = .ok (.iload_n 2, 1) := by decide +kernel
theorem dX7_isRing_20 : decode cX7_isRing 20 = .ok (.iconst 1, 1) := by decide +kernel
theorem dX7_isRing_21 : decode cX7_isRing 21 = .ok (.aload_n 0, 1) := by decide +kernel
theorem dX7_isRing_22 : decode cX7_isRing 22 = .ok (.getfield 90, 3) := by decide +kernel
theorem dX7_isRing_25 : decode cX7_isRing 25 = .ok (.iload_n 3, 1) := by decide +kernel
theorem dX7_isRing_26 : decode cX7_isRing 26 = .ok (.iaload, 1) := by decide +kernel
theorem dX7_isRing_27 : decode cX7_isRing 27 = .ok (.ishl, 1) := by decide +kernel
theorem dX7_isRing_28 : decode cX7_isRing 28 = .ok (.ior, 1) := by decide +kernel
theorem dX7_isRing_29 : decode cX7_isRing 29 = .ok (.istore_n 2, 1) := by decide +kernel
theorem dX7_isRing_30 : decode cX7_isRing 30 = .ok (.iinc 3 (-1), 3) := by decide +kernel
theorem dX7_isRing_33 : decode cX7_isRing 33 = .ok (.goto (-24), 3) := by decide +kernel
theorem dX7_isRing_36 : decode cX7_isRing 36 = .ok (.iload_n 2, 1) := by decide +kernel
theorem dX7_isRing_37 : decode cX7_isRing 37 = .ok (.iconst 1, 1) := by decide +kernel
theorem dX7_isRing_38 : decode cX7_isRing 38 = .ok (.iload_n 1, 1) := by decide +kernel
theorem dX7_isRing_39 : decode cX7_isRing 39 = .ok (.ishl, 1) := by decide +kernel
theorem dX7_isRing_40 : decode cX7_isRing 40 = .ok (.ior, 1) := by decide +kernel
theorem dX7_isRing_41 : decode cX7_isRing 41 = .ok (.istore_n 2, 1) := by decide +kernel
theorem dX7_isRing_42 : decode cX7_isRing 42 = .ok (.iconst 0, 1) := by decide +kernel
theorem dX7_isRing_43 : decode cX7_isRing 43 = .ok (.istore_n 3, 1) := by decide +kernel
theorem dX7_isRing_44 : decode cX7_isRing 44 = .ok (.iload_n 3, 1) := by decide +kernel
theorem dX7_isRing_45 : decode cX7_isRing 45 = .ok (.aload_n 0, 1) := by decide +kernel
theorem dX7_isRing_46 : decode cX7_isRing 46 = .ok (.getfield 157, 3) := by decide +kernel
theorem dX7_isRing_49 : decode cX7_isRing 49 = .ok (.if_icmp .ge 34, 3) := by decide +kernel
theorem dX7_isRing_52 : decode cX7_isRing 52 = .ok (.iload_n 2, 1) := by decide +kernel
theorem dX7_isRing_53 : decode cX7_isRing 53 = .ok (.iload_n 3, 1) := by decide +kernel
theorem dX7_isRing_54 : decode cX7_isRing 54 = .ok (.ishr, 1) := by decide +kernel
theorem dX7_isRing_55 : decode cX7_isRing 55 = .ok (.iconst 1, 1) := by decide +kernel
theorem dX7_isRing_56 : decode cX7_isRing 56 = .ok (.iand, 1) := by decide +kernel
theorem dX7_isRing_57 : decode cX7_isRing 57 = .ok (.ifCond .ne 6, 3) := by decide +kernel
theorem dX7_isRing_60 : decode cX7_isRing 60 = .ok (.goto 17, 3) := by decide +kernel
theorem dX7_isRing_63 : decode cX7_isRing 63 = .ok (.aload_n 0, 1) := by decide +kernel
theorem dX7_isRing_64 : decode cX7_isRing 64 = .ok (.getfield 87, 3) := by decide +kernel
theorem dX7_isRing_67 : decode cX7_isRing 67 = .ok (.iload_n 3, 1) := by decide +kernel
theorem dX7_isRing_68 : decode cX7_isRing 68 = .ok (.iconst 1, 1) := by decide +kernel
theorem dX7_isRing_69 : decode cX7_isRing 69 = .ok (.bastore, 1) := by decide +kernel
theorem dX7_isRing_70 : decode cX7_isRing 70 = .ok (.aload_n 0, 1) := by decide +kernel
theorem dX7_isRing_71 : decode cX7_isRing 71 = .ok (.getfield 78, 3) := by decide +kernel
theorem dX7_isRing_74 : decode cX7_isRing 74 = .ok (.iload_n 3, 1) := by decide +kernel
theorem dX7_isRing_75 : decode cX7_isRing 75 = .ok (.iload_n 2, 1) := by decide +kernel
theorem dX7_isRing_76 : decode cX7_isRing 76 = .ok (.iastore, 1) := by decide +kernel
theorem dX7_isRing_77 : decode cX7_isRing 77 = .ok (.iinc 3 1, 3) := by decide +kernel
theorem dX7_isRing_80 : decode cX7_isRing 80 = .ok (.goto (-36), 3) := by decide +kernel
theorem dX7_isRing_83 : decode cX7_isRing 83 = .ok (.aload_n 0, 1) := by decide +kernel
theorem dX7_isRing_84 : decode cX7_isRing 84 = .ok (.iconst 3, 1) := by decide +kernel
theorem dX7_isRing_85 : decode cX7_isRing 85 = .ok (.iload_n 2, 1) := by decide +kernel
theorem dX7_isRing_86 : decode cX7_isRing 86 = .ok (.invokestatic 205, 3) := by decide +kernel
theorem dX7_isRing_89 : decode cX7_isRing 89 = .ok (.invokevirtual 187, 3) := by decide +kernel
theorem dX7_isRing_92 : decode cX7_isRing 92 = .ok (.return_, 1) := by decide +kernel
theorem dX7_least_0 : decode cX7_least 0 = .ok (.iconst 0, 1) := by decide +kernel
theorem dX7_least_1 : decode cX7_least 1 = .ok (.istore_n 1, 1) := by decide +kernel
theorem dX7_least_2 : decode cX7_least 2 = .ok (.iload_n 0, 1) := by decide +kernel
theorem dX7_least_3 : decode cX7_least 3 = .ok (.iload_n 1, 1) := by decide +kernel
theorem dX7_least_4 : decode cX7_least 4 = .ok (.ishr, 1) := by decide +kernel
theorem dX7_least_5 : decode cX7_least 5 = .ok (.iconst 1, 1) := by decide +kernel
theorem dX7_least_6 : decode cX7_least 6 = .ok (.iand, 1) := by decide +kernel
theorem dX7_least_7 : decode cX7_least 7 = .ok (.ifCond .ne 9, 3) := by decide +kernel
theorem dX7_least_10 : decode cX7_least 10 = .ok (.iinc 1 1, 3) := by decide +kernel
theorem dX7_least_13 : decode cX7_least 13 = .ok (.goto (-11), 3) := by decide +kernel
theorem dX7_least_16 : decode cX7_least 16 = .ok (.iload_n 1, 1) := by decide +kernel
theorem dX7_least_17 : decode cX7_least 17 = .ok (.ireturn, 1) := by decide +kernel
theorem dX7_opened_0 : decode cX7_opened 0 = .ok (.aload_n 0, 1) := by decide +kernel
theorem dX7_opened_1 : decode cX7_opened 1 = .ok (.getfield 84, 3) := by decide +kernel
theorem dX7_opened_4 : decode cX7_opened 4 = .ok (.iload_n 1, 1) := by decide +kernel
theorem dX7_opened_5 : decode cX7_opened 5 = .ok (.iconst 1, 1) := by decide +kernel
theorem dX7_opened_6 : decode cX7_opened 6 = .ok (.bastore, 1) := by decide +kernel
theorem dX7_opened_7 : decode cX7_opened 7 = .ok (.aload_n 0, 1) := by decide +kernel
theorem dX7_opened_8 : decode cX7_opened 8 = .ok (.getfield 90, 3) := by decide +kernel
theorem dX7_opened_11 : decode cX7_opened 11 = .ok (.aload_n 0, 1) := by decide +kernel
theorem dX7_opened_12 : decode cX7_opened 12 = .ok (.getfield 202, 3) := by decide +kernel
theorem dX7_opened_15 : decode cX7_opened 15 = .ok (.iload_n 1, 1) := by decide +kernel
theorem dX7_opened_16 : decode cX7_opened 16 = .ok (.iastore, 1) := by decide +kernel
theorem dX7_opened_17 : decode cX7_opened 17 = .ok (.aload_n 0, 1) := by decide +kernel
theorem dX7_opened_18 : decode cX7_opened 18 = .ok (.getfield 99, 3) := by decide +kernel
theorem dX7_opened_21 : decode cX7_opened 21 = .ok (.aload_n 0, 1) := by decide +kernel
theorem dX7_opened_22 : decode cX7_opened 22 = .ok (.getfield 202, 3) := by decide +kernel
theorem dX7_opened_25 : decode cX7_opened 25 = .ok (.iconst 0, 1) := by decide +kernel
theorem dX7_opened_26 : decode cX7_opened 26 = .ok (.bastore, 1) := by decide +kernel
theorem dX7_opened_27 : decode cX7_opened 27 = .ok (.aload_n 0, 1) := by decide +kernel
theorem dX7_opened_28 : decode cX7_opened 28 = .ok (.getfield 93, 3) := by decide +kernel
theorem dX7_opened_31 : decode cX7_opened 31 = .ok (.aload_n 0, 1) := by decide +kernel
theorem dX7_opened_32 : decode cX7_opened 32 = .ok (.getfield 202, 3) := by decide +kernel
theorem dX7_opened_35 : decode cX7_opened 35 = .ok (.iconst 0, 1) := by decide +kernel
theorem dX7_opened_36 : decode cX7_opened 36 = .ok (.iastore, 1) := by decide +kernel
theorem dX7_opened_37 : decode cX7_opened 37 = .ok (.aload_n 0, 1) := by decide +kernel
theorem dX7_opened_38 : decode cX7_opened 38 = .ok (.getfield 96, 3) := by decide +kernel
theorem dX7_opened_41 : decode cX7_opened 41 = .ok (.aload_n 0, 1) := by decide +kernel
theorem dX7_opened_42 : decode cX7_opened 42 = .ok (.getfield 202, 3) := by decide +kernel
theorem dX7_opened_45 : decode cX7_opened 45 = .ok (.iconst 0, 1) := by decide +kernel
theorem dX7_opened_46 : decode cX7_opened 46 = .ok (.iastore, 1) := by decide +kernel
theorem dX7_opened_47 : decode cX7_opened 47 = .ok (.aload_n 0, 1) := by decide +kernel
theorem dX7_opened_48 : decode cX7_opened 48 = .ok (.dup, 1) := by decide +kernel
theorem dX7_opened_49 : decode cX7_opened 49 = .ok (.getfield 202, 3) := by decide +kernel
theorem dX7_opened_52 : decode cX7_opened 52 = .ok (.iconst 1, 1) := by decide +kernel
theorem dX7_opened_53 : decode cX7_opened 53 = .ok (.iadd, 1) := by decide +kernel
theorem dX7_opened_54 : decode cX7_opened 54 = .ok (.putfield 202, 3) := by decide +kernel
theorem dX7_opened_57 : decode cX7_opened 57 = .ok (.return_, 1) := by decide +kernel
theorem dX7_closed_0 : decode cX7_closed 0 = .ok (.aload_n 0, 1) := by decide +kernel
theorem dX7_closed_1 : decode cX7_closed 1 = .ok (.getfield 81, 3) := by decide +kernel
theorem dX7_closed_4 : decode cX7_closed 4 = .ok (.iload_n 1, 1) := by decide +kernel
theorem dX7_closed_5 : decode cX7_closed 5 = .ok (.iconst 1, 1) := by decide +kernel
theorem dX7_closed_6 : decode cX7_closed 6 = .ok (.bastore, 1) := by decide +kernel
theorem dX7_closed_7 : decode cX7_closed 7 = .ok (.aload_n 0, 1) := by decide +kernel
theorem dX7_closed_8 : decode cX7_closed 8 = .ok (.getfield 84, 3) := by decide +kernel
theorem dX7_closed_11 : decode cX7_closed 11 = .ok (.iload_n 1, 1) := by decide +kernel
theorem dX7_closed_12 : decode cX7_closed 12 = .ok (.iconst 0, 1) := by decide +kernel
theorem dX7_closed_13 : decode cX7_closed 13 = .ok (.bastore, 1) := by decide +kernel
theorem dX7_closed_14 : decode cX7_closed 14 = .ok (.aload_n 0, 1) := by decide +kernel
theorem dX7_closed_15 : decode cX7_closed 15 = .ok (.dup, 1) := by decide +kernel
theorem dX7_closed_16 : decode cX7_closed 16 = .ok (.getfield 202, 3) := by decide +kernel
theorem dX7_closed_19 : decode cX7_closed 19 = .ok (.iconst 1, 1) := by decide +kernel
theorem dX7_closed_20 : decode cX7_closed 20 = .ok (.isub, 1) := by decide +kernel
theorem dX7_closed_21 : decode cX7_closed 21 = .ok (.putfield 202, 3) := by decide +kernel
theorem dX7_closed_24 : decode cX7_closed 24 = .ok (.return_, 1) := by decide +kernel
theorem dX7_goRound_0 : decode cX7_goRound 0 = .ok (.iconst 0, 1) := by decide +kernel
theorem dX7_goRound_1 : decode cX7_goRound 1 = .ok (.istore_n 2, 1) := by decide +kernel
theorem dX7_goRound_2 : decode cX7_goRound 2 = .ok (.iload_n 2, 1) := by decide +kernel
theorem dX7_goRound_3 : decode cX7_goRound 3 = .ok (.bipush 24, 2) := by decide +kernel
theorem dX7_goRound_5 : decode cX7_goRound 5 = .ok (.if_icmp .ge 37, 3) := by decide +kernel
theorem dX7_goRound_8 : decode cX7_goRound 8 = .ok (.aload_n 0, 1) := by decide +kernel
theorem dX7_goRound_9 : decode cX7_goRound 9 = .ok (.getfield 81, 3) := by decide +kernel
theorem dX7_goRound_12 : decode cX7_goRound 12 = .ok (.iload_n 2, 1) := by decide +kernel
theorem dX7_goRound_13 : decode cX7_goRound 13 = .ok (.iconst 0, 1) := by decide +kernel
theorem dX7_goRound_14 : decode cX7_goRound 14 = .ok (.bastore, 1) := by decide +kernel
theorem dX7_goRound_15 : decode cX7_goRound 15 = .ok (.aload_n 0, 1) := by decide +kernel
theorem dX7_goRound_16 : decode cX7_goRound 16 = .ok (.getfield 84, 3) := by decide +kernel
theorem dX7_goRound_19 : decode cX7_goRound 19 = .ok (.iload_n 2, 1) := by decide +kernel
theorem dX7_goRound_20 : decode cX7_goRound 20 = .ok (.iconst 0, 1) := by decide +kernel
theorem dX7_goRound_21 : decode cX7_goRound 21 = .ok (.bastore, 1) := by decide +kernel
theorem dX7_goRound_22 : decode cX7_goRound 22 = .ok (.aload_n 0, 1) := by decide +kernel
theorem dX7_goRound_23 : decode cX7_goRound 23 = .ok (.getfield 87, 3) := by decide +kernel
theorem dX7_goRound_26 : decode cX7_goRound 26 = .ok (.iload_n 2, 1) := by decide +kernel
theorem dX7_goRound_27 : decode cX7_goRound 27 = .ok (.iconst 0, 1) := by decide +kernel
theorem dX7_goRound_28 : decode cX7_goRound 28 = .ok (.bastore, 1) := by decide +kernel
theorem dX7_goRound_29 : decode cX7_goRound 29 = .ok (.aload_n 0, 1) := by decide +kernel
theorem dX7_goRound_30 : decode cX7_goRound 30 = .ok (.getfield 78, 3) := by decide +kernel
theorem dX7_goRound_33 : decode cX7_goRound 33 = .ok (.iload_n 2, 1) := by decide +kernel
theorem dX7_goRound_34 : decode cX7_goRound 34 = .ok (.iconst 0, 1) := by decide +kernel
theorem dX7_goRound_35 : decode cX7_goRound 35 = .ok (.iastore, 1) := by decide +kernel
theorem dX7_goRound_36 : decode cX7_goRound 36 = .ok (.iinc 2 1, 3) := by decide +kernel
theorem dX7_goRound_39 : decode cX7_goRound 39 = .ok (.goto (-37), 3) := by decide +kernel
theorem dX7_goRound_42 : decode cX7_goRound 42 = .ok (.aload_n 0, 1) := by decide +kernel
theorem dX7_goRound_43 : decode cX7_goRound 43 = .ok (.iconst 0, 1) := by decide +kernel
theorem dX7_goRound_44 : decode cX7_goRound 44 = .ok (.putfield 202, 3) := by decide +kernel
theorem dX7_goRound_47 : decode cX7_goRound 47 = .ok (.aload_n 0, 1) := by decide +kernel
theorem dX7_goRound_48 : decode cX7_goRound 48 = .ok (.iload_n 1, 1) := by decide +kernel
theorem dX7_goRound_49 : decode cX7_goRound 49 = .ok (.invokevirtual 199, 3) := by decide +kernel
theorem dX7_goRound_52 : decode cX7_goRound 52 = .ok (.aload_n 0, 1) := by decide +kernel
theorem dX7_goRound_53 : decode cX7_goRound 53 = .ok (.getfield 202, 3) := by decide +kernel
theorem dX7_goRound_56 : decode cX7_goRound 56 = .ok (.ifCond .le 10, 3) := by decide +kernel
theorem dX7_goRound_59 : decode cX7_goRound 59 = .ok (.aload_n 0, 1) := by decide +kernel
theorem dX7_goRound_60 : decode cX7_goRound 60 = .ok (.invokevirtual 208, 3) := by decide +kernel
theorem dX7_goRound_63 : decode cX7_goRound 63 = .ok (.goto (-11), 3) := by decide +kernel
theorem dX7_goRound_66 : decode cX7_goRound 66 = .ok (.aload_n 0, 1) := by decide +kernel
theorem dX7_goRound_67 : decode cX7_goRound 67 = .ok (.aload_n 0, 1) := by decide +kernel
theorem dX7_goRound_68 : decode cX7_goRound 68 = .ok (.getfield 66, 3) := by decide +kernel
theorem dX7_goRound_71 : decode cX7_goRound 71 = .ok (.iload_n 1, 1) := by decide +kernel
theorem dX7_goRound_72 : decode cX7_goRound 72 = .ok (.iaload, 1) := by decide +kernel
theorem dX7_goRound_73 : decode cX7_goRound 73 = .ok (.putfield 138, 3) := by decide +kernel
theorem dX7_goRound_76 : decode cX7_goRound 76 = .ok (.aload_n 0, 1) := by decide +kernel
theorem dX7_goRound_77 : decode cX7_goRound 77 = .ok (.aload_n 0, 1) := by decide +kernel
theorem dX7_goRound_78 : decode cX7_goRound 78 = .ok (.getfield 69, 3) := by decide +kernel
theorem dX7_goRound_81 : decode cX7_goRound 81 = .ok (.iload_n 1, 1) := by decide +kernel
theorem dX7_goRound_82 : decode cX7_goRound 82 = .ok (.iaload, 1) := by decide +kernel
theorem dX7_goRound_83 : decode cX7_goRound 83 = .ok (.putfield 211, 3) := by decide +kernel
theorem dX7_goRound_86 : decode cX7_goRound 86 = .ok (.aload_n 0, 1) := by decide +kernel
theorem dX7_goRound_87 : decode cX7_goRound 87 = .ok (.aload_n 0, 1) := by decide +kernel
theorem dX7_goRound_88 : decode cX7_goRound 88 = .ok (.getfield 72, 3) := by decide +kernel
theorem dX7_goRound_91 : decode cX7_goRound 91 = .ok (.iload_n 1, 1) := by decide +kernel
theorem dX7_goRound_92 : decode cX7_goRound 92 = .ok (.iaload, 1) := by decide +kernel
theorem dX7_goRound_93 : decode cX7_goRound 93 = .ok (.putfield 214, 3) := by decide +kernel
theorem dX7_goRound_96 : decode cX7_goRound 96 = .ok (.aload_n 0, 1) := by decide +kernel
theorem dX7_goRound_97 : decode cX7_goRound 97 = .ok (.aload_n 0, 1) := by decide +kernel
theorem dX7_goRound_98 : decode cX7_goRound 98 = .ok (.getfield 211, 3) := by decide +kernel
theorem dX7_goRound_101 : decode cX7_goRound 101 = .ok (.iconst 3, 1) := by decide +kernel
theorem dX7_goRound_102 : decode cX7_goRound 102 = .ok (.if_icmp .ne 15, 3) := by decide +kernel
theorem dX7_goRound_105 : decode cX7_goRound 105 = .ok (.aload_n 0, 1) := by decide +kernel
theorem dX7_goRound_106 : decode cX7_goRound 106 = .ok (.getfield 78, 3) := by decide +kernel
theorem dX7_goRound_109 : decode cX7_goRound 109 = .ok (.aload_n 0, 1) := by decide +kernel
theorem dX7_goRound_110 : decode cX7_goRound 110 = .ok (.getfield 214, 3) := by decide +kernel
theorem dX7_goRound_113 : decode cX7_goRound 113 = .ok (.iaload, 1) := by decide +kernel
theorem dX7_goRound_114 : decode cX7_goRound 114 = .ok (.goto 4, 3) := by decide +kernel
theorem dX7_goRound_117 : decode cX7_goRound 117 = .ok (.iconst 0, 1) := by decide +kernel
theorem dX7_goRound_118 : decode cX7_goRound 118 = .ok (.putfield 217, 3) := by decide +kernel
theorem dX7_goRound_121 : decode cX7_goRound 121 = .ok (.iconst 0, 1) := by decide +kernel
theorem dX7_goRound_122 : decode cX7_goRound 122 = .ok (.istore_n 2, 1) := by decide +kernel
theorem dX7_goRound_123 : decode cX7_goRound 123 = .ok (.iload_n 2, 1) := by decide +kernel
theorem dX7_goRound_124 : decode cX7_goRound 124 = .ok (.aload_n 0, 1) := by decide +kernel
theorem dX7_goRound_125 : decode cX7_goRound 125 = .ok (.getfield 138, 3) := by decide +kernel
theorem dX7_goRound_128 : decode cX7_goRound 128 = .ok (.if_icmp .ge 26, 3) := by decide +kernel
theorem dX7_goRound_131 : decode cX7_goRound 131 = .ok (.aload_n 0, 1) := by decide +kernel
theorem dX7_goRound_132 : decode cX7_goRound 132 = .ok (.getfield 142, 3) := by decide +kernel
theorem dX7_goRound_135 : decode cX7_goRound 135 = .ok (.iload_n 2, 1) := by decide +kernel
theorem dX7_goRound_136 : decode cX7_goRound 136 = .ok (.aload_n 0, 1) := by decide +kernel
theorem dX7_goRound_137 : decode cX7_goRound 137 = .ok (.getfield 75, 3) := by decide +kernel
theorem dX7_goRound_140 : decode cX7_goRound 140 = .ok (.bipush 24, 2) := by decide +kernel
theorem dX7_goRound_142 : decode cX7_goRound 142 = .ok (.iload_n 1, 1) := by decide +kernel
theorem dX7_goRound_143 : decode cX7_goRound 143 = .ok (.imul, 1) := by decide +kernel
theorem dX7_goRound_144 : decode cX7_goRound 144 = .ok (.iload_n 2, 1) := by decide +kernel
theorem dX7_goRound_145 : decode cX7_goRound 145 = .ok (.iadd, 1) := by decide +kernel
theorem dX7_goRound_146 : decode cX7_goRound 146 = .ok (.iaload, 1) := by decide +kernel
theorem dX7_goRound_147 : decode cX7_goRound 147 = .ok (.iastore, 1) := by decide +kernel
theorem dX7_goRound_148 : decode cX7_goRound 148 = .ok (.iinc 2 1, 3) := by decide +kernel
theorem dX7_goRound_151 : decode cX7_goRound 151 = .ok (.goto (-28), 3) := by decide +kernel
theorem dX7_goRound_154 : decode cX7_goRound 154 = .ok (.return_, 1) := by decide +kernel
theorem dX7_goes_0 : decode cX7_goes 0 = .ok (.aload_n 0, 1) := by decide +kernel
theorem dX7_goes_1 : decode cX7_goes 1 = .ok (.getfield 202, 3) := by decide +kernel
theorem dX7_goes_4 : decode cX7_goes 4 = .ok (.iconst 1, 1) := by decide +kernel
theorem dX7_goes_5 : decode cX7_goes 5 = .ok (.isub, 1) := by decide +kernel
theorem dX7_goes_6 : decode cX7_goes 6 = .ok (.istore_n 1, 1) := by decide +kernel
theorem dX7_goes_7 : decode cX7_goes 7 = .ok (.aload_n 0, 1) := by decide +kernel
theorem dX7_goes_8 : decode cX7_goes 8 = .ok (.getfield 90, 3) := by decide +kernel
theorem dX7_goes_11 : decode cX7_goes 11 = .ok (.iload_n 1, 1) := by decide +kernel
theorem dX7_goes_12 : decode cX7_goes 12 = .ok (.iaload, 1) := by decide +kernel
theorem dX7_goes_13 : decode cX7_goes 13 = .ok (.istore_n 2, 1) := by decide +kernel
theorem dX7_goes_14 : decode cX7_goes 14 = .ok (.aload_n 0, 1) := by decide +kernel
theorem dX7_goes_15 : decode cX7_goes 15 = .ok (.getfield 99, 3) := by decide +kernel
theorem dX7_goes_18 : decode cX7_goes 18 = .ok (.iload_n 1, 1) := by decide +kernel
theorem dX7_goes_19 : decode cX7_goes 19 = .ok (.baload, 1) := by decide +kernel
theorem dX7_goes_20 : decode cX7_goes 20 = .ok (.ifCond .ne 31, 3) := by decide +kernel
theorem dX7_goes_23 : decode cX7_goes 23 = .ok (.aload_n 0, 1) := by decide +kernel
theorem dX7_goes_24 : decode cX7_goes 24 = .ok (.getfield 220, 3) := by decide +kernel
theorem dX7_goes_27 : decode cX7_goes 27 = .ok (.ifCond .ne 18, 3) := by decide +kernel
theorem dX7_goes_30 : decode cX7_goes 30 = .ok (.aload_n 0, 1) := by decide +kernel
theorem dX7_goes_31 : decode cX7_goes 31 = .ok (.getfield 93, 3) := by decide +kernel
theorem dX7_goes_34 : decode cX7_goes 34 = .ok (.iload_n 1, 1) := by decide +kernel
theorem dX7_goes_35 : decode cX7_goes 35 = .ok (.iaload, 1) := by decide +kernel
theorem dX7_goes_36 : decode cX7_goes 36 = .ok (.aload_n 0, 1) := by decide +kernel
theorem dX7_goes_37 : decode cX7_goes 37 = .ok (.getfield 29, 3) := by decide +kernel
theorem dX7_goes_40 : decode cX7_goes 40 = .ok (.iload_n 2, 1) := by decide +kernel
theorem dX7_goes_41 : decode cX7_goes 41 = .ok (.iaload, 1) := by decide +kernel
theorem dX7_goes_42 : decode cX7_goes 42 = .ok (.if_icmp .ne 9, 3) := by decide +kernel
theorem dX7_goes_45 : decode cX7_goes 45 = .ok (.aload_n 0, 1) := by decide +kernel
theorem dX7_goes_46 : decode cX7_goes 46 = .ok (.iload_n 1, 1) := by decide +kernel
theorem dX7_goes_47 : decode cX7_goes 47 = .ok (.invokevirtual 224, 3) := by decide +kernel
theorem dX7_goes_50 : decode cX7_goes 50 = .ok (.return_, 1) := by decide +kernel
theorem dX7_goes_51 : decode cX7_goes 51 = .ok (.aload_n 0, 1) := by decide +kernel
theorem dX7_goes_52 : decode cX7_goes 52 = .ok (.getfield 99, 3) := by decide +kernel
theorem dX7_goes_55 : decode cX7_goes 55 = .ok (.iload_n 1, 1) := by decide +kernel
theorem dX7_goes_56 : decode cX7_goes 56 = .ok (.baload, 1) := by decide +kernel
theorem dX7_goes_57 : decode cX7_goes 57 = .ok (.ifCond .eq 11, 3) := by decide +kernel
theorem dX7_goes_60 : decode cX7_goes 60 = .ok (.aload_n 0, 1) := by decide +kernel
theorem dX7_goes_61 : decode cX7_goes 61 = .ok (.iload_n 1, 1) := by decide +kernel
theorem dX7_goes_62 : decode cX7_goes 62 = .ok (.invokevirtual 227, 3) := by decide +kernel
theorem dX7_goes_65 : decode cX7_goes 65 = .ok (.goto 8, 3) := by decide +kernel
theorem dX7_goes_68 : decode cX7_goes 68 = .ok (.aload_n 0, 1) := by decide +kernel
theorem dX7_goes_69 : decode cX7_goes 69 = .ok (.iload_n 1, 1) := by decide +kernel
theorem dX7_goes_70 : decode cX7_goes 70 = .ok (.invokevirtual 230, 3) := by decide +kernel
theorem dX7_goes_73 : decode cX7_goes 73 = .ok (.istore_n 3, 1) := by decide +kernel
theorem dX7_goes_74 : decode cX7_goes 74 = .ok (.iload_n 3, 1) := by decide +kernel
theorem dX7_goes_75 : decode cX7_goes 75 = .ok (.iconst (-1), 1) := by decide +kernel
theorem dX7_goes_76 : decode cX7_goes 76 = .ok (.if_icmp .ne 26, 3) := by decide +kernel
theorem dX7_goes_79 : decode cX7_goes 79 = .ok (.aload_n 0, 1) := by decide +kernel
theorem dX7_goes_80 : decode cX7_goes 80 = .ok (.getfield 99, 3) := by decide +kernel
theorem dX7_goes_83 : decode cX7_goes 83 = .ok (.iload_n 1, 1) := by decide +kernel
theorem dX7_goes_84 : decode cX7_goes 84 = .ok (.baload, 1) := by decide +kernel
theorem dX7_goes_85 : decode cX7_goes 85 = .ok (.ifCond .eq 11, 3) := by decide +kernel
theorem dX7_goes_88 : decode cX7_goes 88 = .ok (.aload_n 0, 1) := by decide +kernel
theorem dX7_goes_89 : decode cX7_goes 89 = .ok (.iload_n 1, 1) := by decide +kernel
theorem dX7_goes_90 : decode cX7_goes 90 = .ok (.invokevirtual 233, 3) := by decide +kernel
theorem dX7_goes_93 : decode cX7_goes 93 = .ok (.goto 8, 3) := by decide +kernel
theorem dX7_goes_96 : decode cX7_goes 96 = .ok (.aload_n 0, 1) := by decide +kernel
theorem dX7_goes_97 : decode cX7_goes 97 = .ok (.iload_n 1, 1) := by decide +kernel
theorem dX7_goes_98 : decode cX7_goes 98 = .ok (.invokevirtual 236, 3) := by decide +kernel
theorem dX7_goes_101 : decode cX7_goes 101 = .ok (.return_, 1) := by decide +kernel
theorem dX7_goes_102 : decode cX7_goes 102 = .ok (.aload_n 0, 1) := by decide +kernel
theorem dX7_goes_103 : decode cX7_goes 103 = .ok (.iload_n 3, 1) := by decide +kernel
theorem dX7_goes_104 : decode cX7_goes 104 = .ok (.invokevirtual 239, 3) := by decide +kernel
theorem dX7_goes_107 : decode cX7_goes 107 = .ok (.ifCond .ne 4, 3) := by decide +kernel
theorem dX7_goes_110 : decode cX7_goes 110 = .ok (.return_, 1) := by decide +kernel
theorem dX7_goes_111 : decode cX7_goes 111 = .ok (.aload_n 0, 1) := by decide +kernel
theorem dX7_goes_112 : decode cX7_goes 112 = .ok (.getfield 99, 3) := by decide +kernel
theorem dX7_goes_115 : decode cX7_goes 115 = .ok (.iload_n 1, 1) := by decide +kernel
theorem dX7_goes_116 : decode cX7_goes 116 = .ok (.baload, 1) := by decide +kernel
theorem dX7_goes_117 : decode cX7_goes 117 = .ok (.ifCond .ne 13, 3) := by decide +kernel
theorem dX7_goes_120 : decode cX7_goes 120 = .ok (.aload_n 0, 1) := by decide +kernel
theorem dX7_goes_121 : decode cX7_goes 121 = .ok (.dup, 1) := by decide +kernel
theorem dX7_goes_122 : decode cX7_goes 122 = .ok (.getfield 242, 3) := by decide +kernel
theorem dX7_goes_125 : decode cX7_goes 125 = .ok (.iconst 1, 1) := by decide +kernel
theorem dX7_goes_126 : decode cX7_goes 126 = .ok (.iadd, 1) := by decide +kernel
theorem dX7_goes_127 : decode cX7_goes 127 = .ok (.putfield 242, 3) := by decide +kernel
theorem dX7_goes_130 : decode cX7_goes 130 = .ok (.aload_n 0, 1) := by decide +kernel
theorem dX7_goes_131 : decode cX7_goes 131 = .ok (.getfield 87, 3) := by decide +kernel
theorem dX7_goes_134 : decode cX7_goes 134 = .ok (.iload_n 2, 1) := by decide +kernel
theorem dX7_goes_135 : decode cX7_goes 135 = .ok (.baload, 1) := by decide +kernel
theorem dX7_goes_136 : decode cX7_goes 136 = .ok (.ifCond .eq 40, 3) := by decide +kernel
theorem dX7_goes_139 : decode cX7_goes 139 = .ok (.aload_n 0, 1) := by decide +kernel
theorem dX7_goes_140 : decode cX7_goes 140 = .ok (.getfield 66, 3) := by decide +kernel
theorem dX7_goes_143 : decode cX7_goes 143 = .ok (.iload_n 2, 1) := by decide +kernel
theorem dX7_goes_144 : decode cX7_goes 144 = .ok (.iconst 0, 1) := by decide +kernel
theorem dX7_goes_145 : decode cX7_goes 145 = .ok (.iastore, 1) := by decide +kernel
theorem dX7_goes_146 : decode cX7_goes 146 = .ok (.aload_n 0, 1) := by decide +kernel
theorem dX7_goes_147 : decode cX7_goes 147 = .ok (.getfield 69, 3) := by decide +kernel
theorem dX7_goes_150 : decode cX7_goes 150 = .ok (.iload_n 2, 1) := by decide +kernel
theorem dX7_goes_151 : decode cX7_goes 151 = .ok (.iconst 3, 1) := by decide +kernel
theorem dX7_goes_152 : decode cX7_goes 152 = .ok (.iastore, 1) := by decide +kernel
theorem dX7_goes_153 : decode cX7_goes 153 = .ok (.aload_n 0, 1) := by decide +kernel
theorem dX7_goes_154 : decode cX7_goes 154 = .ok (.getfield 72, 3) := by decide +kernel
theorem dX7_goes_157 : decode cX7_goes 157 = .ok (.iload_n 2, 1) := by decide +kernel
theorem dX7_goes_158 : decode cX7_goes 158 = .ok (.aload_n 0, 1) := by decide +kernel
theorem dX7_goes_159 : decode cX7_goes 159 = .ok (.getfield 78, 3) := by decide +kernel
theorem dX7_goes_162 : decode cX7_goes 162 = .ok (.iload_n 2, 1) := by decide +kernel
theorem dX7_goes_163 : decode cX7_goes 163 = .ok (.iaload, 1) := by decide +kernel
theorem dX7_goes_164 : decode cX7_goes 164 = .ok (.invokestatic 205, 3) := by decide +kernel
theorem dX7_goes_167 : decode cX7_goes 167 = .ok (.iastore, 1) := by decide +kernel
theorem dX7_goes_168 : decode cX7_goes 168 = .ok (.aload_n 0, 1) := by decide +kernel
theorem dX7_goes_169 : decode cX7_goes 169 = .ok (.iload_n 2, 1) := by decide +kernel
theorem dX7_goes_170 : decode cX7_goes 170 = .ok (.invokevirtual 245, 3) := by decide +kernel
theorem dX7_goes_173 : decode cX7_goes 173 = .ok (.goto 26, 3) := by decide +kernel
theorem dX7_goes_176 : decode cX7_goes 176 = .ok (.aload_n 0, 1) := by decide +kernel
theorem dX7_goes_177 : decode cX7_goes 177 = .ok (.getfield 99, 3) := by decide +kernel
theorem dX7_goes_180 : decode cX7_goes 180 = .ok (.iload_n 1, 1) := by decide +kernel
theorem dX7_goes_181 : decode cX7_goes 181 = .ok (.baload, 1) := by decide +kernel
theorem dX7_goes_182 : decode cX7_goes 182 = .ok (.ifCond .eq 12, 3) := by decide +kernel
theorem dX7_goes_185 : decode cX7_goes 185 = .ok (.aload_n 0, 1) := by decide +kernel
theorem dX7_goes_186 : decode cX7_goes 186 = .ok (.iload_n 1, 1) := by decide +kernel
theorem dX7_goes_187 : decode cX7_goes 187 = .ok (.iload_n 3, 1) := by decide +kernel
theorem dX7_goes_188 : decode cX7_goes 188 = .ok (.invokevirtual 248, 3) := by decide +kernel
theorem dX7_goes_191 : decode cX7_goes 191 = .ok (.goto 8, 3) := by decide +kernel
theorem dX7_goes_194 : decode cX7_goes 194 = .ok (.aload_n 0, 1) := by decide +kernel
theorem dX7_goes_195 : decode cX7_goes 195 = .ok (.iload_n 1, 1) := by decide +kernel
theorem dX7_goes_196 : decode cX7_goes 196 = .ok (.invokevirtual 251, 3) := by decide +kernel
theorem dX7_goes_199 : decode cX7_goes 199 = .ok (.return_, 1) := by decide +kernel
theorem dX7_nextOld_0 : decode cX7_nextOld 0 = .ok (.aload_n 0, 1) := by decide +kernel
theorem dX7_nextOld_1 : decode cX7_nextOld 1 = .ok (.aload_n 0, 1) := by decide +kernel
theorem dX7_nextOld_2 : decode cX7_nextOld 2 = .ok (.getfield 90, 3) := by decide +kernel
theorem dX7_nextOld_5 : decode cX7_nextOld 5 = .ok (.iload_n 1, 1) := by decide +kernel
theorem dX7_nextOld_6 : decode cX7_nextOld 6 = .ok (.iaload, 1) := by decide +kernel
theorem dX7_nextOld_7 : decode cX7_nextOld 7 = .ok (.aload_n 0, 1) := by decide +kernel
theorem dX7_nextOld_8 : decode cX7_nextOld 8 = .ok (.getfield 93, 3) := by decide +kernel
theorem dX7_nextOld_11 : decode cX7_nextOld 11 = .ok (.iload_n 1, 1) := by decide +kernel
theorem dX7_nextOld_12 : decode cX7_nextOld 12 = .ok (.iaload, 1) := by decide +kernel
theorem dX7_nextOld_13 : decode cX7_nextOld 13 = .ok (.invokevirtual 174, 3) := by decide +kernel
theorem dX7_nextOld_16 : decode cX7_nextOld 16 = .ok (.istore_n 2, 1) := by decide +kernel
theorem dX7_nextOld_17 : decode cX7_nextOld 17 = .ok (.aload_n 0, 1) := by decide +kernel
theorem dX7_nextOld_18 : decode cX7_nextOld 18 = .ok (.getfield 96, 3) := by decide +kernel
theorem dX7_nextOld_21 : decode cX7_nextOld 21 = .ok (.iload_n 1, 1) := by decide +kernel
theorem dX7_nextOld_22 : decode cX7_nextOld 22 = .ok (.iaload, 1) := by decide +kernel
theorem dX7_nextOld_23 : decode cX7_nextOld 23 = .ok (.aload_n 0, 1) := by decide +kernel
theorem dX7_nextOld_24 : decode cX7_nextOld 24 = .ok (.getfield 35, 3) := by decide +kernel
theorem dX7_nextOld_27 : decode cX7_nextOld 27 = .ok (.iload_n 2, 1) := by decide +kernel
theorem dX7_nextOld_28 : decode cX7_nextOld 28 = .ok (.iaload, 1) := by decide +kernel
theorem dX7_nextOld_29 : decode cX7_nextOld 29 = .ok (.if_icmp .ge 22, 3) := by decide +kernel
theorem dX7_nextOld_32 : decode cX7_nextOld 32 = .ok (.aload_n 0, 1) := by decide +kernel
theorem dX7_nextOld_33 : decode cX7_nextOld 33 = .ok (.getfield 50, 3) := by decide +kernel
theorem dX7_nextOld_36 : decode cX7_nextOld 36 = .ok (.bipush 25, 2) := by decide +kernel
theorem dX7_nextOld_38 : decode cX7_nextOld 38 = .ok (.iload_n 2, 1) := by decide +kernel
theorem dX7_nextOld_39 : decode cX7_nextOld 39 = .ok (.imul, 1) := by decide +kernel
theorem dX7_nextOld_40 : decode cX7_nextOld 40 = .ok (.aload_n 0, 1) := by decide +kernel
theorem dX7_nextOld_41 : decode cX7_nextOld 41 = .ok (.getfield 96, 3) := by decide +kernel
theorem dX7_nextOld_44 : decode cX7_nextOld 44 = .ok (.iload_n 1, 1) := by decide +kernel
theorem dX7_nextOld_45 : decode cX7_nextOld 45 = .ok (.iaload, 1) := by decide +kernel
theorem dX7_nextOld_46 : decode cX7_nextOld 46 = .ok (.iadd, 1) := by decide +kernel
theorem dX7_nextOld_47 : decode cX7_nextOld 47 = .ok (.iaload, 1) := by decide +kernel
theorem dX7_nextOld_48 : decode cX7_nextOld 48 = .ok (.goto 4, 3) := by decide +kernel
theorem dX7_nextOld_51 : decode cX7_nextOld 51 = .ok (.iconst (-1), 1) := by decide +kernel
theorem dX7_nextOld_52 : decode cX7_nextOld 52 = .ok (.ireturn, 1) := by decide +kernel
theorem dX7_compares_0 : decode cX7_compares 0 = .ok (.aload_n 0, 1) := by decide +kernel
theorem dX7_compares_1 : decode cX7_compares 1 = .ok (.getfield 90, 3) := by decide +kernel
theorem dX7_compares_4 : decode cX7_compares 4 = .ok (.iload_n 1, 1) := by decide +kernel
theorem dX7_compares_5 : decode cX7_compares 5 = .ok (.iaload, 1) := by decide +kernel
theorem dX7_compares_6 : decode cX7_compares 6 = .ok (.istore_n 2, 1) := by decide +kernel
theorem dX7_compares_7 : decode cX7_compares 7 = .ok (.bipush 25, 2) := by decide +kernel
theorem dX7_compares_9 : decode cX7_compares 9 = .ok (.aload_n 0, 1) := by decide +kernel
theorem dX7_compares_10 : decode cX7_compares 10 = .ok (.iload_n 2, 1) := by decide +kernel
theorem dX7_compares_11 : decode cX7_compares 11 = .ok (.aload_n 0, 1) := by decide +kernel
theorem dX7_compares_12 : decode cX7_compares 12 = .ok (.getfield 93, 3) := by decide +kernel
theorem dX7_compares_15 : decode cX7_compares 15 = .ok (.iload_n 1, 1) := by decide +kernel
theorem dX7_compares_16 : decode cX7_compares 16 = .ok (.iaload, 1) := by decide +kernel
theorem dX7_compares_17 : decode cX7_compares 17 = .ok (.invokevirtual 174, 3) := by decide +kernel
theorem dX7_compares_20 : decode cX7_compares 20 = .ok (.imul, 1) := by decide +kernel
theorem dX7_compares_21 : decode cX7_compares 21 = .ok (.aload_n 0, 1) := by decide +kernel
theorem dX7_compares_22 : decode cX7_compares 22 = .ok (.getfield 96, 3) := by decide +kernel
theorem dX7_compares_25 : decode cX7_compares 25 = .ok (.iload_n 1, 1) := by decide +kernel
theorem dX7_compares_26 : decode cX7_compares 26 = .ok (.iaload, 1) := by decide +kernel
theorem dX7_compares_27 : decode cX7_compares 27 = .ok (.iadd, 1) := by decide +kernel
theorem dX7_compares_28 : decode cX7_compares 28 = .ok (.istore_n 3, 1) := by decide +kernel
theorem dX7_compares_29 : decode cX7_compares 29 = .ok (.aload_n 0, 1) := by decide +kernel
theorem dX7_compares_30 : decode cX7_compares 30 = .ok (.getfield 53, 3) := by decide +kernel
theorem dX7_compares_33 : decode cX7_compares 33 = .ok (.iload_n 3, 1) := by decide +kernel
theorem dX7_compares_34 : decode cX7_compares 34 = .ok (.iaload, 1) := by decide +kernel
theorem dX7_compares_35 : decode cX7_compares 35 = .ok (.aload_n 0, 1) := by decide +kernel
theorem dX7_compares_36 : decode cX7_compares 36 = .ok (.getfield 178, 3) := by decide +kernel
theorem dX7_compares_39 : decode cX7_compares 39 = .ok (.if_icmp .ne 33, 3) := by decide +kernel
theorem dX7_compares_42 : decode cX7_compares 42 = .ok (.aload_n 0, 1) := by decide +kernel
theorem dX7_compares_43 : decode cX7_compares 43 = .ok (.getfield 56, 3) := by decide +kernel
theorem dX7_compares_46 : decode cX7_compares 46 = .ok (.iload_n 3, 1) := by decide +kernel
theorem dX7_compares_47 : decode cX7_compares 47 = .ok (.iaload, 1) := by decide +kernel
theorem dX7_compares_48 : decode cX7_compares 48 = .ok (.aload_n 0, 1) := by decide +kernel
theorem dX7_compares_49 : decode cX7_compares 49 = .ok (.getfield 181, 3) := by decide +kernel
theorem dX7_compares_52 : decode cX7_compares 52 = .ok (.if_icmp .ne 20, 3) := by decide +kernel
theorem dX7_compares_55 : decode cX7_compares 55 = .ok (.aload_n 0, 1) := by decide +kernel
theorem dX7_compares_56 : decode cX7_compares 56 = .ok (.getfield 59, 3) := by decide +kernel
theorem dX7_compares_59 : decode cX7_compares 59 = .ok (.iload_n 3, 1) := by decide +kernel
theorem dX7_compares_60 : decode cX7_compares 60 = .ok (.iaload, 1) := by decide +kernel
theorem dX7_compares_61 : decode cX7_compares 61 = .ok (.aload_n 0, 1) := by decide +kernel
theorem dX7_compares_62 : decode cX7_compares 62 = .ok (.getfield 184, 3) := by decide +kernel
theorem dX7_compares_65 : decode cX7_compares 65 = .ok (.if_icmp .ne 7, 3) := by decide +kernel
theorem dX7_compares_68 : decode cX7_compares 68 = .ok (.iconst 1, 1) := by decide +kernel
theorem dX7_compares_69 : decode cX7_compares 69 = .ok (.goto 4, 3) := by decide +kernel
theorem dX7_compares_72 : decode cX7_compares 72 = .ok (.iconst 0, 1) := by decide +kernel
theorem dX7_compares_73 : decode cX7_compares 73 = .ok (.istore 4, 2) := by decide +kernel
theorem dX7_compares_75 : decode cX7_compares 75 = .ok (.iconst 0, 1) := by decide +kernel
theorem dX7_compares_76 : decode cX7_compares 76 = .ok (.istore 5, 2) := by decide +kernel
theorem dX7_compares_78 : decode cX7_compares 78 = .ok (.iload 5, 2) := by decide +kernel
theorem dX7_compares_80 : decode cX7_compares 80 = .ok (.aload_n 0, 1) := by decide +kernel
theorem dX7_compares_81 : decode cX7_compares 81 = .ok (.getfield 178, 3) := by decide +kernel
theorem dX7_compares_84 : decode cX7_compares 84 = .ok (.if_icmp .ge 43, 3) := by decide +kernel
theorem dX7_compares_87 : decode cX7_compares 87 = .ok (.iload 4, 2) := by decide +kernel
theorem dX7_compares_89 : decode cX7_compares 89 = .ok (.ifCond .eq 38, 3) := by decide +kernel
theorem dX7_compares_92 : decode cX7_compares 92 = .ok (.aload_n 0, 1) := by decide +kernel
theorem dX7_compares_93 : decode cX7_compares 93 = .ok (.getfield 63, 3) := by decide +kernel
theorem dX7_compares_96 : decode cX7_compares 96 = .ok (.bipush 24, 2) := by decide +kernel
theorem dX7_compares_98 : decode cX7_compares 98 = .ok (.iload_n 3, 1) := by decide +kernel
theorem dX7_compares_99 : decode cX7_compares 99 = .ok (.imul, 1) := by decide +kernel
theorem dX7_compares_100 : decode cX7_compares 100 = .ok (.iload 5, 2) := by decide +kernel
theorem dX7_compares_102 : decode cX7_compares 102 = .ok (.iadd, 1) := by decide +kernel
theorem dX7_compares_103 : decode cX7_compares 103 = .ok (.iaload, 1) := by decide +kernel
theorem dX7_compares_104 : decode cX7_compares 104 = .ok (.aload_n 0, 1) := by decide +kernel
theorem dX7_compares_105 : decode cX7_compares 105 = .ok (.getfield 135, 3) := by decide +kernel
theorem dX7_compares_108 : decode cX7_compares 108 = .ok (.iload 5, 2) := by decide +kernel
theorem dX7_compares_110 : decode cX7_compares 110 = .ok (.iaload, 1) := by decide +kernel
theorem dX7_compares_111 : decode cX7_compares 111 = .ok (.if_icmp .ne 7, 3) := by decide +kernel
theorem dX7_compares_114 : decode cX7_compares 114 = .ok (.iconst 1, 1) := by decide +kernel
theorem dX7_compares_115 : decode cX7_compares 115 = .ok (.goto 4, 3) := by decide +kernel
theorem dX7_compares_118 : decode cX7_compares 118 = .ok (.iconst 0, 1) := by decide +kernel
theorem dX7_compares_119 : decode cX7_compares 119 = .ok (.istore 4, 2) := by decide +kernel
theorem dX7_compares_121 : decode cX7_compares 121 = .ok (.iinc 5 1, 3) := by decide +kernel
theorem dX7_compares_124 : decode cX7_compares 124 = .ok (.goto (-46), 3) := by decide +kernel
theorem dX7_compares_127 : decode cX7_compares 127 = .ok (.iload 4, 2) := by decide +kernel
theorem dX7_compares_129 : decode cX7_compares 129 = .ok (.ifCond .eq 14, 3) := by decide +kernel
theorem dX7_compares_132 : decode cX7_compares 132 = .ok (.aload_n 0, 1) := by decide +kernel
theorem dX7_compares_133 : decode cX7_compares 133 = .ok (.getfield 96, 3) := by decide +kernel
theorem dX7_compares_136 : decode cX7_compares 136 = .ok (.iload_n 1, 1) := by decide +kernel
theorem dX7_compares_137 : decode cX7_compares 137 = .ok (.dup2, 1) := by decide +kernel
theorem dX7_compares_138 : decode cX7_compares 138 = .ok (.iaload, 1) := by decide +kernel
theorem dX7_compares_139 : decode cX7_compares 139 = .ok (.iconst 1, 1) := by decide +kernel
theorem dX7_compares_140 : decode cX7_compares 140 = .ok (.iadd, 1) := by decide +kernel
theorem dX7_compares_141 : decode cX7_compares 141 = .ok (.iastore, 1) := by decide +kernel
theorem dX7_compares_142 : decode cX7_compares 142 = .ok (.return_, 1) := by decide +kernel
theorem dX7_compares_143 : decode cX7_compares 143 = .ok (.aload_n 0, 1) := by decide +kernel
theorem dX7_compares_144 : decode cX7_compares 144 = .ok (.getfield 148, 3) := by decide +kernel
theorem dX7_compares_147 : decode cX7_compares 147 = .ok (.iconst 4, 1) := by decide +kernel
theorem dX7_compares_148 : decode cX7_compares 148 = .ok (.iload_n 2, 1) := by decide +kernel
theorem dX7_compares_149 : decode cX7_compares 149 = .ok (.imul, 1) := by decide +kernel
theorem dX7_compares_150 : decode cX7_compares 150 = .ok (.aload_n 0, 1) := by decide +kernel
theorem dX7_compares_151 : decode cX7_compares 151 = .ok (.getfield 93, 3) := by decide +kernel
theorem dX7_compares_154 : decode cX7_compares 154 = .ok (.iload_n 1, 1) := by decide +kernel
theorem dX7_compares_155 : decode cX7_compares 155 = .ok (.iaload, 1) := by decide +kernel
theorem dX7_compares_156 : decode cX7_compares 156 = .ok (.iadd, 1) := by decide +kernel
theorem dX7_compares_157 : decode cX7_compares 157 = .ok (.aload_n 0, 1) := by decide +kernel
theorem dX7_compares_158 : decode cX7_compares 158 = .ok (.getfield 96, 3) := by decide +kernel
theorem dX7_compares_161 : decode cX7_compares 161 = .ok (.iload_n 1, 1) := by decide +kernel
theorem dX7_compares_162 : decode cX7_compares 162 = .ok (.iaload, 1) := by decide +kernel
theorem dX7_compares_163 : decode cX7_compares 163 = .ok (.iastore, 1) := by decide +kernel
theorem dX7_compares_164 : decode cX7_compares 164 = .ok (.aload_n 0, 1) := by decide +kernel
theorem dX7_compares_165 : decode cX7_compares 165 = .ok (.getfield 93, 3) := by decide +kernel
theorem dX7_compares_168 : decode cX7_compares 168 = .ok (.iload_n 1, 1) := by decide +kernel
theorem dX7_compares_169 : decode cX7_compares 169 = .ok (.dup2, 1) := by decide +kernel
theorem dX7_compares_170 : decode cX7_compares 170 = .ok (.iaload, 1) := by decide +kernel
theorem dX7_compares_171 : decode cX7_compares 171 = .ok (.iconst 1, 1) := by decide +kernel
theorem dX7_compares_172 : decode cX7_compares 172 = .ok (.iadd, 1) := by decide +kernel
theorem dX7_compares_173 : decode cX7_compares 173 = .ok (.iastore, 1) := by decide +kernel
