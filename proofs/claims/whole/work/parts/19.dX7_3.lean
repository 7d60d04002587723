theorem dX7_appends_5 : decode cX7_appends 5 = .ok (.iaload, 1) := by decide +kernel
theorem dX7_appends_6 : decode cX7_appends 6 = .ok (.aload_n 0, 1) := by decide +kernel
theorem dX7_appends_7 : decode cX7_appends 7 = .ok (.getfield 178, 3) := by decide +kernel
theorem dX7_appends_10 : decode cX7_appends 10 = .ok (.iadd, 1) := by decide +kernel
theorem dX7_appends_11 : decode cX7_appends 11 = .ok (.bipush 24, 2) := by decide +kernel
theorem dX7_appends_13 : decode cX7_appends 13 = .ok (.if_icmp .le 16, 3) := by decide +kernel
theorem dX7_appends_16 : decode cX7_appends 16 = .ok (.aload_n 0, 1) := by decide +kernel
theorem dX7_appends_17 : decode cX7_appends 17 = .ok (.iload_n 1, 1) := by decide +kernel
theorem dX7_appends_18 : decode cX7_appends 18 = .ok (.iconst 2, 1) := by decide +kernel
theorem dX7_appends_19 : decode cX7_appends 19 = .ok (.aload_n 0, 1) := by decide +kernel
theorem dX7_appends_20 : decode cX7_appends 20 = .ok (.getfield 90, 3) := by decide +kernel
theorem dX7_appends_23 : decode cX7_appends 23 = .ok (.iload_n 1, 1) := by decide +kernel
theorem dX7_appends_24 : decode cX7_appends 24 = .ok (.iaload, 1) := by decide +kernel
theorem dX7_appends_25 : decode cX7_appends 25 = .ok (.invokevirtual 270, 3) := by decide +kernel
theorem dX7_appends_28 : decode cX7_appends 28 = .ok (.return_, 1) := by decide +kernel
theorem dX7_appends_29 : decode cX7_appends 29 = .ok (.iconst 0, 1) := by decide +kernel
theorem dX7_appends_30 : decode cX7_appends 30 = .ok (.istore_n 2, 1) := by decide +kernel
theorem dX7_appends_31 : decode cX7_appends 31 = .ok (.iload_n 2, 1) := by decide +kernel
theorem dX7_appends_32 : decode cX7_appends 32 = .ok (.aload_n 0, 1) := by decide +kernel
theorem dX7_appends_33 : decode cX7_appends 33 = .ok (.getfield 178, 3) := by decide +kernel
theorem dX7_appends_36 : decode cX7_appends 36 = .ok (.if_icmp .ge 33, 3) := by decide +kernel
theorem dX7_appends_39 : decode cX7_appends 39 = .ok (.aload_n 0, 1) := by decide +kernel
theorem dX7_appends_40 : decode cX7_appends 40 = .ok (.getfield 120, 3) := by decide +kernel
theorem dX7_appends_43 : decode cX7_appends 43 = .ok (.bipush 24, 2) := by decide +kernel
theorem dX7_appends_45 : decode cX7_appends 45 = .ok (.iload_n 1, 1) := by decide +kernel
theorem dX7_appends_46 : decode cX7_appends 46 = .ok (.imul, 1) := by decide +kernel
theorem dX7_appends_47 : decode cX7_appends 47 = .ok (.aload_n 0, 1) := by decide +kernel
theorem dX7_appends_48 : decode cX7_appends 48 = .ok (.getfield 117, 3) := by decide +kernel
theorem dX7_appends_51 : decode cX7_appends 51 = .ok (.iload_n 1, 1) := by decide +kernel
theorem dX7_appends_52 : decode cX7_appends 52 = .ok (.iaload, 1) := by decide +kernel
theorem dX7_appends_53 : decode cX7_appends 53 = .ok (.iadd, 1) := by decide +kernel
theorem dX7_appends_54 : decode cX7_appends 54 = .ok (.iload_n 2, 1) := by decide +kernel
theorem dX7_appends_55 : decode cX7_appends 55 = .ok (.iadd, 1) := by decide +kernel
theorem dX7_appends_56 : decode cX7_appends 56 = .ok (.aload_n 0, 1) := by decide +kernel
theorem dX7_appends_57 : decode cX7_appends 57 = .ok (.getfield 135, 3) := by decide +kernel
theorem dX7_appends_60 : decode cX7_appends 60 = .ok (.iload_n 2, 1) := by decide +kernel
theorem dX7_appends_61 : decode cX7_appends 61 = .ok (.iaload, 1) := by decide +kernel
theorem dX7_appends_62 : decode cX7_appends 62 = .ok (.iastore, 1) := by decide +kernel
theorem dX7_appends_63 : decode cX7_appends 63 = .ok (.iinc 2 1, 3) := by decide +kernel
theorem dX7_appends_66 : decode cX7_appends 66 = .ok (.goto (-35), 3) := by decide +kernel
theorem dX7_appends_69 : decode cX7_appends 69 = .ok (.aload_n 0, 1) := by decide +kernel
theorem dX7_appends_70 : decode cX7_appends 70 = .ok (.getfield 117, 3) := by decide +kernel
theorem dX7_appends_73 : decode cX7_appends 73 = .ok (.iload_n 1, 1) := by decide +kernel
theorem dX7_appends_74 : decode cX7_appends 74 = .ok (.dup2, 1) := by decide +kernel
theorem dX7_appends_75 : decode cX7_appends 75 = .ok (.iaload, 1) := by decide +kernel
theorem dX7_appends_76 : decode cX7_appends 76 = .ok (.aload_n 0, 1) := by decide +kernel
theorem dX7_appends_77 : decode cX7_appends 77 = .ok (.getfield 178, 3) := by decide +kernel
theorem dX7_appends_80 : decode cX7_appends 80 = .ok (.iadd, 1) := by decide +kernel
theorem dX7_appends_81 : decode cX7_appends 81 = .ok (.iastore, 1) := by decide +kernel
theorem dX7_appends_82 : decode cX7_appends 82 = .ok (.return_, 1) := by decide +kernel
theorem dX7_finishes_0 : decode cX7_finishes 0 = .ok (.aload_n 0, 1) := by decide +kernel
theorem dX7_finishes_1 : decode cX7_finishes 1 = .ok (.getfield 90, 3) := by decide +kernel
theorem dX7_finishes_4 : decode cX7_finishes 4 = .ok (.iload_n 1, 1) := by decide +kernel
theorem dX7_finishes_5 : decode cX7_finishes 5 = .ok (.iaload, 1) := by decide +kernel
theorem dX7_finishes_6 : decode cX7_finishes 6 = .ok (.istore_n 2, 1) := by decide +kernel
theorem dX7_finishes_7 : decode cX7_finishes 7 = .ok (.aload_n 0, 1) := by decide +kernel
theorem dX7_finishes_8 : decode cX7_finishes 8 = .ok (.getfield 69, 3) := by decide +kernel
theorem dX7_finishes_11 : decode cX7_finishes 11 = .ok (.iload_n 2, 1) := by decide +kernel
theorem dX7_finishes_12 : decode cX7_finishes 12 = .ok (.aload_n 0, 1) := by decide +kernel
theorem dX7_finishes_13 : decode cX7_finishes 13 = .ok (.getfield 126, 3) := by decide +kernel
theorem dX7_finishes_16 : decode cX7_finishes 16 = .ok (.iload_n 1, 1) := by decide +kernel
theorem dX7_finishes_17 : decode cX7_finishes 17 = .ok (.iaload, 1) := by decide +kernel
theorem dX7_finishes_18 : decode cX7_finishes 18 = .ok (.iastore, 1) := by decide +kernel
theorem dX7_finishes_19 : decode cX7_finishes 19 = .ok (.aload_n 0, 1) := by decide +kernel
theorem dX7_finishes_20 : decode cX7_finishes 20 = .ok (.getfield 72, 3) := by decide +kernel
theorem dX7_finishes_23 : decode cX7_finishes 23 = .ok (.iload_n 2, 1) := by decide +kernel
theorem dX7_finishes_24 : decode cX7_finishes 24 = .ok (.aload_n 0, 1) := by decide +kernel
theorem dX7_finishes_25 : decode cX7_finishes 25 = .ok (.getfield 129, 3) := by decide +kernel
theorem dX7_finishes_28 : decode cX7_finishes 28 = .ok (.iload_n 1, 1) := by decide +kernel
theorem dX7_finishes_29 : decode cX7_finishes 29 = .ok (.iaload, 1) := by decide +kernel
theorem dX7_finishes_30 : decode cX7_finishes 30 = .ok (.iastore, 1) := by decide +kernel
theorem dX7_finishes_31 : decode cX7_finishes 31 = .ok (.aload_n 0, 1) := by decide +kernel
theorem dX7_finishes_32 : decode cX7_finishes 32 = .ok (.getfield 66, 3) := by decide +kernel
theorem dX7_finishes_35 : decode cX7_finishes 35 = .ok (.iload_n 2, 1) := by decide +kernel
theorem dX7_finishes_36 : decode cX7_finishes 36 = .ok (.aload_n 0, 1) := by decide +kernel
theorem dX7_finishes_37 : decode cX7_finishes 37 = .ok (.getfield 126, 3) := by decide +kernel
theorem dX7_finishes_40 : decode cX7_finishes 40 = .ok (.iload_n 1, 1) := by decide +kernel
theorem dX7_finishes_41 : decode cX7_finishes 41 = .ok (.iaload, 1) := by decide +kernel
theorem dX7_finishes_42 : decode cX7_finishes 42 = .ok (.ifCond .eq 7, 3) := by decide +kernel
theorem dX7_finishes_45 : decode cX7_finishes 45 = .ok (.iconst 0, 1) := by decide +kernel
theorem dX7_finishes_46 : decode cX7_finishes 46 = .ok (.goto 23, 3) := by decide +kernel
theorem dX7_finishes_49 : decode cX7_finishes 49 = .ok (.aload_n 0, 1) := by decide +kernel
theorem dX7_finishes_50 : decode cX7_finishes 50 = .ok (.getfield 16, 3) := by decide +kernel
theorem dX7_finishes_53 : decode cX7_finishes 53 = .ok (.iload_n 2, 1) := by decide +kernel
theorem dX7_finishes_54 : decode cX7_finishes 54 = .ok (.iaload, 1) := by decide +kernel
theorem dX7_finishes_55 : decode cX7_finishes 55 = .ok (.iconst 2, 1) := by decide +kernel
theorem dX7_finishes_56 : decode cX7_finishes 56 = .ok (.if_icmp .ne 7, 3) := by decide +kernel
theorem dX7_finishes_59 : decode cX7_finishes 59 = .ok (.iconst 1, 1) := by decide +kernel
theorem dX7_finishes_60 : decode cX7_finishes 60 = .ok (.goto 9, 3) := by decide +kernel
theorem dX7_finishes_63 : decode cX7_finishes 63 = .ok (.aload_n 0, 1) := by decide +kernel
theorem dX7_finishes_64 : decode cX7_finishes 64 = .ok (.getfield 117, 3) := by decide +kernel
theorem dX7_finishes_67 : decode cX7_finishes 67 = .ok (.iload_n 1, 1) := by decide +kernel
theorem dX7_finishes_68 : decode cX7_finishes 68 = .ok (.iaload, 1) := by decide +kernel
theorem dX7_finishes_69 : decode cX7_finishes 69 = .ok (.iastore, 1) := by decide +kernel
theorem dX7_finishes_70 : decode cX7_finishes 70 = .ok (.aload_n 0, 1) := by decide +kernel
theorem dX7_finishes_71 : decode cX7_finishes 71 = .ok (.getfield 16, 3) := by decide +kernel
theorem dX7_finishes_74 : decode cX7_finishes 74 = .ok (.iload_n 2, 1) := by decide +kernel
theorem dX7_finishes_75 : decode cX7_finishes 75 = .ok (.iaload, 1) := by decide +kernel
theorem dX7_finishes_76 : decode cX7_finishes 76 = .ok (.iconst 2, 1) := by decide +kernel
theorem dX7_finishes_77 : decode cX7_finishes 77 = .ok (.if_icmp .ne 18, 3) := by decide +kernel
theorem dX7_finishes_80 : decode cX7_finishes 80 = .ok (.aload_n 0, 1) := by decide +kernel
theorem dX7_finishes_81 : decode cX7_finishes 81 = .ok (.getfield 120, 3) := by decide +kernel
theorem dX7_finishes_84 : decode cX7_finishes 84 = .ok (.bipush 24, 2) := by decide +kernel
theorem dX7_finishes_86 : decode cX7_finishes 86 = .ok (.iload_n 1, 1) := by decide +kernel
theorem dX7_finishes_87 : decode cX7_finishes 87 = .ok (.imul, 1) := by decide +kernel
theorem dX7_finishes_88 : decode cX7_finishes 88 = .ok (.aload_n 0, 1) := by decide +kernel
theorem dX7_finishes_89 : decode cX7_finishes 89 = .ok (.getfield 123, 3) := by decide +kernel
theorem dX7_finishes_92 : decode cX7_finishes 92 = .ok (.iload_n 1, 1) := by decide +kernel
theorem dX7_finishes_93 : decode cX7_finishes 93 = .ok (.iaload, 1) := by decide +kernel
theorem dX7_finishes_94 : decode cX7_finishes 94 = .ok (.iastore, 1) := by decide +kernel
theorem dX7_finishes_95 : decode cX7_finishes 95 = .ok (.aload_n 0, 1) := by decide +kernel
theorem dX7_finishes_96 : decode cX7_finishes 96 = .ok (.getfield 16, 3) := by decide +kernel
theorem dX7_finishes_99 : decode cX7_finishes 99 = .ok (.iload_n 2, 1) := by decide +kernel
theorem dX7_finishes_100 : decode cX7_finishes 100 = .ok (.iaload, 1) := by decide +kernel
theorem dX7_finishes_101 : decode cX7_finishes 101 = .ok (.iconst 3, 1) := by decide +kernel
theorem dX7_finishes_102 : decode cX7_finishes 102 = .ok (.if_icmp .ne 8, 3) := by decide +kernel
theorem dX7_finishes_105 : decode cX7_finishes 105 = .ok (.aload_n 0, 1) := by decide +kernel
theorem dX7_finishes_106 : decode cX7_finishes 106 = .ok (.iload_n 1, 1) := by decide +kernel
theorem dX7_finishes_107 : decode cX7_finishes 107 = .ok (.invokevirtual 276, 3) := by decide +kernel
theorem dX7_finishes_110 : decode cX7_finishes 110 = .ok (.iconst 0, 1) := by decide +kernel
theorem dX7_finishes_111 : decode cX7_finishes 111 = .ok (.istore_n 3, 1) := by decide +kernel
theorem dX7_finishes_112 : decode cX7_finishes 112 = .ok (.iload_n 3, 1) := by decide +kernel
theorem dX7_finishes_113 : decode cX7_finishes 113 = .ok (.aload_n 0, 1) := by decide +kernel
theorem dX7_finishes_114 : decode cX7_finishes 114 = .ok (.getfield 66, 3) := by decide +kernel
theorem dX7_finishes_117 : decode cX7_finishes 117 = .ok (.iload_n 2, 1) := by decide +kernel
theorem dX7_finishes_118 : decode cX7_finishes 118 = .ok (.iaload, 1) := by decide +kernel
theorem dX7_finishes_119 : decode cX7_finishes 119 = .ok (.if_icmp .ge 31, 3) := by decide +kernel
theorem dX7_finishes_122 : decode cX7_finishes 122 = .ok (.aload_n 0, 1) := by decide +kernel
theorem dX7_finishes_123 : decode cX7_finishes 123 = .ok (.getfield 75, 3) := by decide +kernel
theorem dX7_finishes_126 : decode cX7_finishes 126 = .ok (.bipush 24, 2) := by decide +kernel
theorem dX7_finishes_128 : decode cX7_finishes 128 = .ok (.iload_n 2, 1) := by decide +kernel
theorem dX7_finishes_129 : decode cX7_finishes 129 = .ok (.imul, 1) := by decide +kernel
theorem dX7_finishes_130 : decode cX7_finishes 130 = .ok (.iload_n 3, 1) := by decide +kernel
theorem dX7_finishes_131 : decode cX7_finishes 131 = .ok (.iadd, 1) := by decide +kernel
theorem dX7_finishes_132 : decode cX7_finishes 132 = .ok (.aload_n 0, 1) := by decide +kernel
theorem dX7_finishes_133 : decode cX7_finishes 133 = .ok (.getfield 120, 3) := by decide +kernel
theorem dX7_finishes_136 : decode cX7_finishes 136 = .ok (.bipush 24, 2) := by decide +kernel
theorem dX7_finishes_138 : decode cX7_finishes 138 = .ok (.iload_n 1, 1) := by decide +kernel
theorem dX7_finishes_139 : decode cX7_finishes 139 = .ok (.imul, 1) := by decide +kernel
theorem dX7_finishes_140 : decode cX7_finishes 140 = .ok (.iload_n 3, 1) := by decide +kernel
theorem dX7_finishes_141 : decode cX7_finishes 141 = .ok (.iadd, 1) := by decide +kernel
theorem dX7_finishes_142 : decode cX7_finishes 142 = .ok (.iaload, 1) := by decide +kernel
theorem dX7_finishes_143 : decode cX7_finishes 143 = .ok (.iastore, 1) := by decide +kernel
theorem dX7_finishes_144 : decode cX7_finishes 144 = .ok (.iinc 3 1, 3) := by decide +kernel
theorem dX7_finishes_147 : decode cX7_finishes 147 = .ok (.goto (-35), 3) := by decide +kernel
theorem dX7_finishes_150 : decode cX7_finishes 150 = .ok (.aload_n 0, 1) := by decide +kernel
theorem dX7_finishes_151 : decode cX7_finishes 151 = .ok (.getfield 220, 3) := by decide +kernel
theorem dX7_finishes_154 : decode cX7_finishes 154 = .ok (.ifCond .ne 8, 3) := by decide +kernel
theorem dX7_finishes_157 : decode cX7_finishes 157 = .ok (.aload_n 0, 1) := by decide +kernel
theorem dX7_finishes_158 : decode cX7_finishes 158 = .ok (.iload_n 1, 1) := by decide +kernel
theorem dX7_finishes_159 : decode cX7_finishes 159 = .ok (.invokevirtual 279, 3) := by decide +kernel
theorem dX7_finishes_162 : decode cX7_finishes 162 = .ok (.aload_n 0, 1) := by decide +kernel
theorem dX7_finishes_163 : decode cX7_finishes 163 = .ok (.iload_n 2, 1) := by decide +kernel
theorem dX7_finishes_164 : decode cX7_finishes 164 = .ok (.invokevirtual 245, 3) := by decide +kernel
theorem dX7_finishes_167 : decode cX7_finishes 167 = .ok (.return_, 1) := by decide +kernel
theorem dX7_sorts_0 : decode cX7_sorts 0 = .ok (.iconst 1, 1) := by decide +kernel
theorem dX7_sorts_1 : decode cX7_sorts 1 = .ok (.istore_n 2, 1) := by decide +kernel
theorem dX7_sorts_2 : decode cX7_sorts 2 = .ok (.iload_n 2, 1) := by decide +kernel
theorem dX7_sorts_3 : decode cX7_sorts 3 = .ok (.aload_n 0, 1) := by decide +kernel
theorem dX7_sorts_4 : decode cX7_sorts 4 = .ok (.getfield 117, 3) := by decide +kernel
theorem dX7_sorts_7 : decode cX7_sorts 7 = .ok (.iload_n 1, 1) := by decide +kernel
theorem dX7_sorts_8 : decode cX7_sorts 8 = .ok (.iaload, 1) := by decide +kernel
theorem dX7_sorts_9 : decode cX7_sorts 9 = .ok (.if_icmp .ge 92, 3) := by decide +kernel
theorem dX7_sorts_12 : decode cX7_sorts 12 = .ok (.aload_n 0, 1) := by decide +kernel
theorem dX7_sorts_13 : decode cX7_sorts 13 = .ok (.getfield 120, 3) := by decide +kernel
theorem dX7_sorts_16 : decode cX7_sorts 16 = .ok (.bipush 24, 2) := by decide +kernel
theorem dX7_sorts_18 : decode cX7_sorts 18 = .ok (.iload_n 1, 1) := by decide +kernel
theorem dX7_sorts_19 : decode cX7_sorts 19 = .ok (.imul, 1) := by decide +kernel
theorem dX7_sorts_20 : decode cX7_sorts 20 = .ok (.iload_n 2, 1) := by decide +kernel
theorem dX7_sorts_21 : decode cX7_sorts 21 = .ok (.iadd, 1) := by decide +kernel
theorem dX7_sorts_22 : decode cX7_sorts 22 = .ok (.iaload, 1) := by decide +kernel
theorem dX7_sorts_23 : decode cX7_sorts 23 = .ok (.istore_n 3, 1) := by decide +kernel
theorem dX7_sorts_24 : decode cX7_sorts 24 = .ok (.iload_n 2, 1) := by decide +kernel
theorem dX7_sorts_25 : decode cX7_sorts 25 = .ok (.istore 4, 2) := by decide +kernel
theorem dX7_sorts_27 : decode cX7_sorts 27 = .ok (.iload 4, 2) := by decide +kernel
theorem dX7_sorts_29 : decode cX7_sorts 29 = .ok (.ifCond .le 53, 3) := by decide +kernel
theorem dX7_sorts_32 : decode cX7_sorts 32 = .ok (.aload_n 0, 1) := by decide +kernel
theorem dX7_sorts_33 : decode cX7_sorts 33 = .ok (.getfield 120, 3) := by decide +kernel
theorem dX7_sorts_36 : decode cX7_sorts 36 = .ok (.bipush 24, 2) := by decide +kernel
theorem dX7_sorts_38 : decode cX7_sorts 38 = .ok (.iload_n 1, 1) := by decide +kernel
theorem dX7_sorts_39 : decode cX7_sorts 39 = .ok (.imul, 1) := by decide +kernel
theorem dX7_sorts_40 : decode cX7_sorts 40 = .ok (.iload 4, 2) := by decide +kernel
theorem dX7_sorts_42 : decode cX7_sorts 42 = .ok (.iadd, 1) := by decide +kernel
theorem dX7_sorts_43 : decode cX7_sorts 43 = .ok (.iconst 1, 1) := by decide +kernel
theorem dX7_sorts_44 : decode cX7_sorts 44 = .ok (.isub, 1) := by decide +kernel
theorem dX7_sorts_45 : decode cX7_sorts 45 = .ok (.iaload, 1) := by decide +kernel
theorem dX7_sorts_46 : decode cX7_sorts 46 = .ok (.iload_n 3, 1) := by decide +kernel
theorem dX7_sorts_47 : decode cX7_sorts 47 = .ok (.if_icmp .le 35, 3) := by decide +kernel
theorem dX7_sorts_50 : decode cX7_sorts 50 = .ok (.aload_n 0, 1) := by decide +kernel
theorem dX7_sorts_51 : decode cX7_sorts 51 = .ok (.getfield 120, 3) := by decide +kernel
theorem dX7_sorts_54 : decode cX7_sorts 54 = .ok (.bipush 24, 2) := by decide +kernel
theorem dX7_sorts_56 : decode cX7_sorts 56 = .ok (.iload_n 1, 1) := by decide +kernel
theorem dX7_sorts_57 : decode cX7_sorts 57 = .ok (.imul, 1) := by decide +kernel
theorem dX7_sorts_58 : decode cX7_sorts 58 = .ok (.iload 4, 2) := by decide +kernel
theorem dX7_sorts_60 : decode cX7_sorts 60 = .ok (.iadd, 1) := by decide +kernel
theorem dX7_sorts_61 : decode cX7_sorts 61 = .ok (.aload_n 0, 1) := by decide +kernel
theorem dX7_sorts_62 : decode cX7_sorts 62 = .ok (.getfield 120, 3) := by decide +kernel
theorem dX7_sorts_65 : decode cX7_sorts 65 = .ok (.bipush 24, 2) := by decide +kernel
theorem dX7_sorts_67 : decode cX7_sorts 67 = .ok (.iload_n 1, 1) := by decide +kernel
theorem dX7_sorts_68 : decode cX7_sorts 68 = .ok (.imul, 1) := by decide +kernel
theorem dX7_sorts_69 : decode cX7_sorts 69 = .ok (.iload 4, 2) := by decide +kernel
theorem dX7_sorts_71 : decode cX7_sorts 71 = .ok (.iadd, 1) := by decide +kernel
theorem dX7_sorts_72 : decode cX7_sorts 72 = .ok (.iconst 1, 1) := by decide +kernel
theorem dX7_sorts_73 : decode cX7_sorts 73 = .ok (.isub, 1) := by decide +kernel
theorem dX7_sorts_74 : decode cX7_sorts 74 = .ok (.iaload, 1) := by decide +kernel
theorem dX7_sorts_75 : decode cX7_sorts 75 = .ok (.iastore, 1) := by decide +kernel
theorem dX7_sorts_76 : decode cX7_sorts 76 = .ok (.iinc 4 (-1), 3) := by decide +kernel
theorem dX7_sorts_79 : decode cX7_sorts 79 = .ok (.goto (-52), 3) := by decide +kernel
theorem dX7_sorts_82 : decode cX7_sorts 82 = .ok (.aload_n 0, 1) := by decide +kernel
theorem dX7_sorts_83 : decode cX7_sorts 83 = .ok (.getfield 120, 3) := by decide +kernel
theorem dX7_sorts_86 : decode cX7_sorts 86 = .ok (.bipush 24, 2) := by decide +kernel
theorem dX7_sorts_88 : decode cX7_sorts 88 = .ok (.iload_n 1, 1) := by decide +kernel
theorem dX7_sorts_89 : decode cX7_sorts 89 = .ok (.imul, 1) := by decide +kernel
theorem dX7_sorts_90 : decode cX7_sorts 90 = .ok (.iload 4, 2) := by decide +kernel
theorem dX7_sorts_92 : decode cX7_sorts 92 = .ok (.iadd, 1) := by decide +kernel
theorem dX7_sorts_93 : decode cX7_sorts 93 = .ok (.iload_n 3, 1) := by decide +kernel
theorem dX7_sorts_94 : decode cX7_sorts 94 = .ok (.iastore, 1) := by decide +kernel
theorem dX7_sorts_95 : decode cX7_sorts 95 = .ok (.iinc 2 1, 3) := by decide +kernel
theorem dX7_sorts_98 : decode cX7_sorts 98 = .ok (.goto (-96), 3) := by decide +kernel
theorem dX7_sorts_101 : decode cX7_sorts 101 = .ok (.return_, 1) := by decide +kernel
theorem dX7_answer_0 : decode cX7_answer 0 = .ok (.aload_n 0, 1) := by decide +kernel
theorem dX7_answer_1 : decode cX7_answer 1 = .ok (.getfield 211, 3) := by decide +kernel
theorem dX7_answer_4 : decode cX7_answer 4 = .ok (.ifCond .ne 10, 3) := by decide +kernel
theorem dX7_answer_7 : decode cX7_answer 7 = .ok (.aload_n 0, 1) := by decide +kernel
theorem dX7_answer_8 : decode cX7_answer 8 = .ok (.getfield 138, 3) := by decide +kernel
theorem dX7_answer_11 : decode cX7_answer 11 = .ok (.goto 10, 3) := by decide +kernel
theorem dX7_answer_14 : decode cX7_answer 14 = .ok (.bipush (-10), 2) := by decide +kernel
theorem dX7_answer_16 : decode cX7_answer 16 = .ok (.aload_n 0, 1) := by decide +kernel
theorem dX7_answer_17 : decode cX7_answer 17 = .ok (.getfield 211, 3) := by decide +kernel
theorem dX7_answer_20 : decode cX7_answer 20 = .ok (.isub, 1) := by decide +kernel
theorem dX7_answer_21 : decode cX7_answer 21 = .ok (.ireturn, 1) := by decide +kernel
theorem dX7_make_0 : decode cX7_make 0 = .ok (.aload_n 0, 1) := by decide +kernel
theorem dX7_make_1 : decode cX7_make 1 = .ok (.iload_n 1, 1) := by decide +kernel
theorem dX7_make_2 : decode cX7_make 2 = .ok (.invokevirtual 168, 3) := by decide +kernel
theorem dX7_make_5 : decode cX7_make 5 = .ok (.ifCond .ne 5, 3) := by decide +kernel
theorem dX7_make_8 : decode cX7_make 8 = .ok (.iconst (-1), 1) := by decide +kernel
theorem dX7_make_9 : decode cX7_make 9 = .ok (.ireturn, 1) := by decide +kernel
theorem dX7_make_10 : decode cX7_make 10 = .ok (.aload_n 0, 1) := by decide +kernel
theorem dX7_make_11 : decode cX7_make 11 = .ok (.iconst 0, 1) := by decide +kernel
theorem dX7_make_12 : decode cX7_make 12 = .ok (.putfield 220, 3) := by decide +kernel
theorem dX7_make_15 : decode cX7_make 15 = .ok (.aload_n 0, 1) := by decide +kernel
theorem dX7_make_16 : decode cX7_make 16 = .ok (.iconst 0, 1) := by decide +kernel
theorem dX7_make_17 : decode cX7_make 17 = .ok (.putfield 242, 3) := by decide +kernel
theorem dX7_make_20 : decode cX7_make 20 = .ok (.aload_n 0, 1) := by decide +kernel
theorem dX7_make_21 : decode cX7_make 21 = .ok (.iconst 0, 1) := by decide +kernel
theorem dX7_make_22 : decode cX7_make 22 = .ok (.putfield 264, 3) := by decide +kernel
theorem dX7_make_25 : decode cX7_make 25 = .ok (.iconst 0, 1) := by decide +kernel
theorem dX7_make_26 : decode cX7_make 26 = .ok (.istore_n 2, 1) := by decide +kernel
theorem dX7_make_27 : decode cX7_make 27 = .ok (.iload_n 2, 1) := by decide +kernel
theorem dX7_make_28 : decode cX7_make 28 = .ok (.bipush 96, 2) := by decide +kernel
theorem dX7_make_30 : decode cX7_make 30 = .ok (.if_icmp .ge 16, 3) := by decide +kernel
theorem dX7_make_33 : decode cX7_make 33 = .ok (.aload_n 0, 1) := by decide +kernel
theorem dX7_make_34 : decode cX7_make 34 = .ok (.getfield 148, 3) := by decide +kernel
theorem dX7_make_37 : decode cX7_make 37 = .ok (.iload_n 2, 1) := by decide +kernel
theorem dX7_make_38 : decode cX7_make 38 = .ok (.iconst (-1), 1) := by decide +kernel
theorem dX7_make_39 : decode cX7_make 39 = .ok (.iastore, 1) := by decide +kernel
theorem dX7_make_40 : decode cX7_make 40 = .ok (.iinc 2 1, 3) := by decide +kernel
theorem dX7_make_43 : decode cX7_make 43 = .ok (.goto (-16), 3) := by decide +kernel
theorem dX7_make_46 : decode cX7_make 46 = .ok (.aload_n 0, 1) := by decide +kernel
theorem dX7_make_47 : decode cX7_make 47 = .ok (.dup, 1) := by decide +kernel
theorem dX7_make_48 : decode cX7_make 48 = .ok (.getfield 282, 3) := by decide +kernel
theorem dX7_make_51 : decode cX7_make 51 = .ok (.iconst 1, 1) := by decide +kernel
theorem dX7_make_52 : decode cX7_make 52 = .ok (.iadd, 1) := by decide +kernel
theorem dX7_make_53 : decode cX7_make 53 = .ok (.putfield 282, 3) := by decide +kernel
theorem dX7_make_56 : decode cX7_make 56 = .ok (.aload_n 0, 1) := by decide +kernel
theorem dX7_make_57 : decode cX7_make 57 = .ok (.iload_n 1, 1) := by decide +kernel
theorem dX7_make_58 : decode cX7_make 58 = .ok (.invokevirtual 285, 3) := by decide +kernel
theorem dX7_make_61 : decode cX7_make 61 = .ok (.aload_n 0, 1) := by decide +kernel
theorem dX7_make_62 : decode cX7_make 62 = .ok (.invokevirtual 288, 3) := by decide +kernel
theorem dX7_make_65 : decode cX7_make 65 = .ok (.ireturn, 1) := by decide +kernel
theorem dX7_anew_0 : decode cX7_anew 0 = .ok (.aload_n 0, 1) := by decide +kernel
theorem dX7_anew_1 : decode cX7_anew 1 = .ok (.iload_n 1, 1) := by decide +kernel
theorem dX7_anew_2 : decode cX7_anew 2 = .ok (.invokevirtual 168, 3) := by decide +kernel
theorem dX7_anew_5 : decode cX7_anew 5 = .ok (.ifCond .ne 5, 3) := by decide +kernel
theorem dX7_anew_8 : decode cX7_anew 8 = .ok (.iconst (-1), 1) := by decide +kernel
theorem dX7_anew_9 : decode cX7_anew 9 = .ok (.ireturn, 1) := by decide +kernel
theorem dX7_anew_10 : decode cX7_anew 10 = .ok (.aload_n 0, 1) := by decide +kernel
theorem dX7_anew_11 : decode cX7_anew 11 = .ok (.iconst 1, 1) := by decide +kernel
theorem dX7_anew_12 : decode cX7_anew 12 = .ok (.putfield 220, 3) := by decide +kernel
theorem dX7_anew_15 : decode cX7_anew 15 = .ok (.aload_n 0, 1) := by decide +kernel
theorem dX7_anew_16 : decode cX7_anew 16 = .ok (.iload_n 1, 1) := by decide +kernel
theorem dX7_anew_17 : decode cX7_anew 17 = .ok (.invokevirtual 285, 3) := by decide +kernel
theorem dX7_anew_20 : decode cX7_anew 20 = .ok (.aload_n 0, 1) := by decide +kernel
theorem dX7_anew_21 : decode cX7_anew 21 = .ok (.invokevirtual 288, 3) := by decide +kernel
theorem dX7_anew_24 : decode cX7_anew 24 = .ok (.ireturn, 1) := by decide +kernel
theorem dX7_outcome_0 : decode cX7_outcome 0 = .ok (.aload_n 0, 1) := by decide +kernel
theorem dX7_outcome_1 : decode cX7_outcome 1 = .ok (.getfield 138, 3) := by decide +kernel
theorem dX7_outcome_4 : decode cX7_outcome 4 = .ok (.iconst (-1), 1) := by decide +kernel
theorem dX7_outcome_5 : decode cX7_outcome 5 = .ok (.if_icmp .ne 5, 3) := by decide +kernel
theorem dX7_outcome_8 : decode cX7_outcome 8 = .ok (.iconst (-1), 1) := by decide +kernel
theorem dX7_outcome_9 : decode cX7_outcome 9 = .ok (.ireturn, 1) := by decide +kernel
theorem dX7_outcome_10 : decode cX7_outcome 10 = .ok (.iload_n 1, 1) := by decide +kernel
theorem dX7_outcome_11 : decode cX7_outcome 11 = .ok (.ifCond .ne 10, 3) := by decide +kernel
theorem dX7_outcome_14 : decode cX7_outcome 14 = .ok (.aload_n 0, 1) := by decide +kernel
theorem dX7_outcome_15 : decode cX7_outcome 15 = .ok (.getfield 138, 3) := by decide +kernel
theorem dX7_outcome_18 : decode cX7_outcome 18 = .ok (.goto 28, 3) := by decide +kernel
theorem dX7_outcome_21 : decode cX7_outcome 21 = .ok (.iload_n 1, 1) := by decide +kernel
theorem dX7_outcome_22 : decode cX7_outcome 22 = .ok (.iconst 1, 1) := by decide +kernel
theorem dX7_outcome_23 : decode cX7_outcome 23 = .ok (.if_icmp .ne 10, 3) := by decide +kernel
theorem dX7_outcome_26 : decode cX7_outcome 26 = .ok (.aload_n 0, 1) := by decide +kernel
theorem dX7_outcome_27 : decode cX7_outcome 27 = .ok (.getfield 211, 3) := by decide +kernel
theorem dX7_outcome_30 : decode cX7_outcome 30 = .ok (.goto 16, 3) := by decide +kernel
theorem dX7_outcome_33 : decode cX7_outcome 33 = .ok (.iload_n 1, 1) := by decide +kernel
theorem dX7_outcome_34 : decode cX7_outcome 34 = .ok (.iconst 2, 1) := by decide +kernel
theorem dX7_outcome_35 : decode cX7_outcome 35 = .ok (.if_icmp .ne 10, 3) := by decide +kernel
theorem dX7_outcome_38 : decode cX7_outcome 38 = .ok (.aload_n 0, 1) := by decide +kernel
theorem dX7_outcome_39 : decode cX7_outcome 39 = .ok (.getfield 214, 3) := by decide +kernel
theorem dX7_outcome_42 : decode cX7_outcome 42 = .ok (.goto 4, 3) := by decide +kernel
theorem dX7_outcome_45 : decode cX7_outcome 45 = .ok (.iconst (-1), 1) := by decide +kernel
theorem dX7_outcome_46 : decode cX7_outcome 46 = .ok (.ireturn, 1) := by decide +kernel
theorem dX7_part_0 : decode cX7_part 0 = .ok (.iload_n 1, 1) := by decide +kernel
theorem dX7_part_1 : decode cX7_part 1 = .ok (.ifCond .lt 20, 3) := by decide +kernel
theorem dX7_part_4 : decode cX7_part 4 = .ok (.iload_n 1, 1) := by decide +kernel
theorem dX7_part_5 : decode cX7_part 5 = .ok (.aload_n 0, 1) := by decide +kernel
theorem dX7_part_6 : decode cX7_part 6 = .ok (.getfield 138, 3) := by decide +kernel
theorem dX7_part_9 : decode cX7_part 9 = .ok (.if_icmp .ge 12, 3) := by decide +kernel
theorem dX7_part_12 : decode cX7_part 12 = .ok (.aload_n 0, 1) := by decide +kernel
theorem dX7_part_13 : decode cX7_part 13 = .ok (.getfield 142, 3) := by decide +kernel
theorem dX7_part_16 : decode cX7_part 16 = .ok (.iload_n 1, 1) := by decide +kernel
theorem dX7_part_17 : decode cX7_part 17 = .ok (.iaload, 1) := by decide +kernel
theorem dX7_part_18 : decode cX7_part 18 = .ok (.goto 4, 3) := by decide +kernel
theorem dX7_part_21 : decode cX7_part 21 = .ok (.iconst 0, 1) := by decide +kernel
theorem dX7_part_22 : decode cX7_part 22 = .ok (.ireturn, 1) := by decide +kernel
theorem dX7_ring_0 : decode cX7_ring 0 = .ok (.iload_n 1, 1) := by decide +kernel
theorem dX7_ring_1 : decode cX7_ring 1 = .ok (.istore_n 2, 1) := by decide +kernel
theorem dX7_ring_2 : decode cX7_ring 2 = .ok (.iconst 0, 1) := by decide +kernel
theorem dX7_ring_3 : decode cX7_ring 3 = .ok (.istore_n 3, 1) := by decide +kernel
theorem dX7_ring_4 : decode cX7_ring 4 = .ok (.iload_n 3, 1) := by decide +kernel
theorem dX7_ring_5 : decode cX7_ring 5 = .ok (.bipush 24, 2) := by decide +kernel
theorem dX7_ring_7 : decode cX7_ring 7 = .ok (.if_icmp .ge 32, 3) := by decide +kernel
theorem dX7_ring_10 : decode cX7_ring 10 = .ok (.aload_n 0, 1) := by decide +kernel
theorem dX7_ring_11 : decode cX7_ring 11 = .ok (.getfield 217, 3) := by decide +kernel
theorem dX7_ring_14 : decode cX7_ring 14 = .ok (.iload_n 3, 1) := by decide +kernel
theorem dX7_ring_15 : decode cX7_ring 15 = .ok (.ishr, 1) := by decide +kernel
theorem dX7_ring_16 : decode cX7_ring 16 = .ok (.iconst 1, 1) := by decide +kernel
theorem dX7_ring_17 : decode cX7_ring 17 = .ok (.iand, 1) := by decide +kernel
theorem dX7_ring_18 : decode cX7_ring 18 = .ok (.ifCond .ne 6, 3) := by decide +kernel
theorem dX7_ring_21 : decode cX7_ring 21 = .ok (.goto 12, 3) := by decide +kernel
theorem dX7_ring_24 : decode cX7_ring 24 = .ok (.iload_n 2, 1) := by decide +kernel
theorem dX7_ring_25 : decode cX7_ring 25 = .ok (.ifCond .ne 5, 3) := by decide +kernel
theorem dX7_ring_28 : decode cX7_ring 28 = .ok (.iload_n 3, 1) := by decide +kernel
theorem dX7_ring_29 : decode cX7_ring 29 = .ok (.ireturn, 1) := by decide +kernel
theorem dX7_ring_30 : decode cX7_ring 30 = .ok (.iinc 2 (-1), 3) := by decide +kernel
theorem dX7_ring_33 : decode cX7_ring 33 = .ok (.iinc 3 1, 3) := by decide +kernel
theorem dX7_ring_36 : decode cX7_ring 36 = .ok (.goto (-32), 3) := by decide +kernel
theorem dX7_ring_39 : decode cX7_ring 39 = .ok (.iconst (-1), 1) := by decide +kernel
theorem dX7_ring_40 : decode cX7_ring 40 = .ok (.ireturn, 1) := by decide +kernel
theorem dX7_worked_0 : decode cX7_worked 0 = .ok (.iload_n 1, 1) := by decide +kernel
theorem dX7_worked_1 : decode cX7_worked 1 = .ok (.ifCond .lt 20, 3) := by decide +kernel
theorem dX7_worked_4 : decode cX7_worked 4 = .ok (.iload_n 1, 1) := by decide +kernel
theorem dX7_worked_5 : decode cX7_worked 5 = .ok (.aload_n 0, 1) := by decide +kernel
theorem dX7_worked_6 : decode cX7_worked 6 = .ok (.getfield 264, 3) := by decide +kernel
theorem dX7_worked_9 : decode cX7_worked 9 = .ok (.if_icmp .ge 12, 3) := by decide +kernel
theorem dX7_worked_12 : decode cX7_worked 12 = .ok (.aload_n 0, 1) := by decide +kernel
theorem dX7_worked_13 : decode cX7_worked 13 = .ok (.getfield 145, 3) := by decide +kernel
theorem dX7_worked_16 : decode cX7_worked 16 = .ok (.iload_n 1, 1) := by decide +kernel
theorem dX7_worked_17 : decode cX7_worked 17 = .ok (.iaload, 1) := by decide +kernel
theorem dX7_worked_18 : decode cX7_worked 18 = .ok (.goto 4, 3) := by decide +kernel
theorem dX7_worked_21 : decode cX7_worked 21 = .ok (.iconst (-1), 1) := by decide +kernel
theorem dX7_worked_22 : decode cX7_worked 22 = .ok (.ireturn, 1) := by decide +kernel
theorem dX7_looked_0 : decode cX7_looked 0 = .ok (.aload_n 0, 1) := by decide +kernel
theorem dX7_looked_1 : decode cX7_looked 1 = .ok (.getfield 242, 3) := by decide +kernel
theorem dX7_looked_4 : decode cX7_looked 4 = .ok (.ireturn, 1) := by decide +kernel
theorem dX7_stale_0 : decode cX7_stale 0 = .ok (.aload_n 0, 1) := by decide +kernel
theorem dX7_stale_1 : decode cX7_stale 1 = .ok (.iload_n 1, 1) := by decide +kernel
theorem dX7_stale_2 : decode cX7_stale 2 = .ok (.invokevirtual 168, 3) := by decide +kernel
theorem dX7_stale_5 : decode cX7_stale 5 = .ok (.ifCond .eq 25, 3) := by decide +kernel
theorem dX7_stale_8 : decode cX7_stale 8 = .ok (.iload_n 2, 1) := by decide +kernel
theorem dX7_stale_9 : decode cX7_stale 9 = .ok (.ifCond .lt 21, 3) := by decide +kernel
theorem dX7_stale_12 : decode cX7_stale 12 = .ok (.iload_n 2, 1) := by decide +kernel
theorem dX7_stale_13 : decode cX7_stale 13 = .ok (.iconst 4, 1) := by decide +kernel
theorem dX7_stale_14 : decode cX7_stale 14 = .ok (.if_icmp .ge 16, 3) := by decide +kernel
theorem dX7_stale_17 : decode cX7_stale 17 = .ok (.aload_n 0, 1) := by decide +kernel
theorem dX7_stale_18 : decode cX7_stale 18 = .ok (.getfield 148, 3) := by decide +kernel
theorem dX7_stale_21 : decode cX7_stale 21 = .ok (.iconst 4, 1) := by decide +kernel
theorem dX7_stale_22 : decode cX7_stale 22 = .ok (.iload_n 1, 1) := by decide +kernel
theorem dX7_stale_23 : decode cX7_stale 23 = .ok (.imul, 1) := by decide +kernel
theorem dX7_stale_24 : decode cX7_stale 24 = .ok (.iload_n 2, 1) := by decide +kernel
theorem dX7_stale_25 : decode cX7_stale 25 = .ok (.iadd, 1) := by decide +kernel
theorem dX7_stale_26 : decode cX7_stale 26 = .ok (.iaload, 1) := by decide +kernel
theorem dX7_stale_27 : decode cX7_stale 27 = .ok (.goto 4, 3) := by decide +kernel
theorem dX7_stale_30 : decode cX7_stale 30 = .ok (.iconst (-1), 1) := by decide +kernel
theorem dX7_stale_31 : decode cX7_stale 31 = .ok (.ireturn, 1) := by decide +kernel
theorem dX7_count_0 : decode cX7_count 0 = .ok (.iconst 0, 1) := by decide +kernel
theorem dX7_count_1 : decode cX7_count 1 = .ok (.istore_n 2, 1) := by decide +kernel
theorem dX7_count_2 : decode cX7_count 2 = .ok (.iconst 0, 1) := by decide +kernel
theorem dX7_count_3 : decode cX7_count 3 = .ok (.istore_n 3, 1) := by decide +kernel
theorem dX7_count_4 : decode cX7_count 4 = .ok (.iload_n 3, 1) := by decide +kernel
theorem dX7_count_5 : decode cX7_count 5 = .ok (.aload_n 0, 1) := by decide +kernel
theorem dX7_count_6 : decode cX7_count 6 = .ok (.getfield 157, 3) := by decide +kernel
theorem dX7_count_9 : decode cX7_count 9 = .ok (.if_icmp .ge 18, 3) := by decide +kernel
theorem dX7_count_12 : decode cX7_count 12 = .ok (.iload_n 2, 1) := by decide +kernel
theorem dX7_count_13 : decode cX7_count 13 = .ok (.aload_n 0, 1) := by decide +kernel
theorem dX7_count_14 : decode cX7_count 14 = .ok (.getfield 29, 3) := by decide +kernel
theorem dX7_count_17 : decode cX7_count 17 = .ok (.iload_n 3, 1) := by decide +kernel
theorem dX7_count_18 : decode cX7_count 18 = .ok (.iaload, 1) := by decide +kernel
theorem dX7_count_19 : decode cX7_count 19 = .ok (.iadd, 1) := by decide +kernel
theorem dX7_count_20 : decode cX7_count 20 = .ok (.istore_n 2, 1) := by decide +kernel
theorem dX7_count_21 : decode cX7_count 21 = .ok (.iinc 3 1, 3) := by decide +kernel
theorem dX7_count_24 : decode cX7_count 24 = .ok (.goto (-20), 3) := by decide +kernel
theorem dX7_count_27 : decode cX7_count 27 = .ok (.iload_n 1, 1) := by decide +kernel
theorem dX7_count_28 : decode cX7_count 28 = .ok (.ifCond .ne 10, 3) := by decide +kernel
theorem dX7_count_31 : decode cX7_count 31 = .ok (.aload_n 0, 1) := by decide +kernel
theorem dX7_count_32 : decode cX7_count 32 = .ok (.getfield 157, 3) := by decide +kernel
theorem dX7_count_35 : decode cX7_count 35 = .ok (.goto 37, 3) := by decide +kernel
theorem dX7_count_38 : decode cX7_count 38 = .ok (.iload_n 1, 1) := by decide +kernel
theorem dX7_count_39 : decode cX7_count 39 = .ok (.iconst 1, 1) := by decide +kernel
theorem dX7_count_40 : decode cX7_count 40 = .ok (.if_icmp .ne 10, 3) := by decide +kernel
theorem dX7_count_43 : decode cX7_count 43 = .ok (.aload_n 0, 1) := by decide +kernel
theorem dX7_count_44 : decode cX7_count 44 = .ok (.getfield 282, 3) := by decide +kernel
theorem dX7_count_47 : decode cX7_count 47 = .ok (.goto 25, 3) := by decide +kernel
theorem dX7_count_50 : decode cX7_count 50 = .ok (.iload_n 1, 1) := by decide +kernel
theorem dX7_count_51 : decode cX7_count 51 = .ok (.iconst 2, 1) := by decide +kernel
theorem dX7_count_52 : decode cX7_count 52 = .ok (.if_icmp .ne 10, 3) := by decide +kernel
theorem dX7_count_55 : decode cX7_count 55 = .ok (.aload_n 0, 1) := by decide +kernel
theorem dX7_count_56 : decode cX7_count 56 = .ok (.getfield 267, 3) := by decide +kernel
theorem dX7_count_59 : decode cX7_count 59 = .ok (.goto 13, 3) := by decide +kernel
theorem dX7_count_62 : decode cX7_count 62 = .ok (.iload_n 1, 1) := by decide +kernel
theorem dX7_count_63 : decode cX7_count 63 = .ok (.iconst 3, 1) := by decide +kernel
theorem dX7_count_64 : decode cX7_count 64 = .ok (.if_icmp .ne 7, 3) := by decide +kernel
theorem dX7_count_67 : decode cX7_count 67 = .ok (.iload_n 2, 1) := by decide +kernel
theorem dX7_count_68 : decode cX7_count 68 = .ok (.goto 4, 3) := by decide +kernel
theorem dX7_count_71 : decode cX7_count 71 = .ok (.iconst (-1), 1) := by decide +kernel
theorem dX7_count_72 : decode cX7_count 72 = .ok (.ireturn, 1) := by decide +kernel
theorem dX7_found_0 : decode cX7_found 0 = .ok (.iload_n 1, 1) := by decide +kernel
theorem dX7_found_1 : decode cX7_found 1 = .ok (.ifCond .ne 10, 3) := by decide +kernel
theorem dX7_found_4 : decode cX7_found 4 = .ok (.aload_n 0, 1) := by decide +kernel
theorem dX7_found_5 : decode cX7_found 5 = .ok (.getfield 154, 3) := by decide +kernel
theorem dX7_found_8 : decode cX7_found 8 = .ok (.goto 22, 3) := by decide +kernel
theorem dX7_found_11 : decode cX7_found 11 = .ok (.iload_n 1, 1) := by decide +kernel
theorem dX7_found_12 : decode cX7_found 12 = .ok (.ifCond .le 17, 3) := by decide +kernel
theorem dX7_found_15 : decode cX7_found 15 = .ok (.iload_n 1, 1) := by decide +kernel
theorem dX7_found_16 : decode cX7_found 16 = .ok (.iconst 5, 1) := by decide +kernel
theorem dX7_found_17 : decode cX7_found 17 = .ok (.if_icmp .ge 12, 3) := by decide +kernel
theorem dX7_found_20 : decode cX7_found 20 = .ok (.aload_n 0, 1) := by decide +kernel
theorem dX7_found_21 : decode cX7_found 21 = .ok (.getfield 151, 3) := by decide +kernel
theorem dX7_found_24 : decode cX7_found 24 = .ok (.iload_n 1, 1) := by decide +kernel
theorem dX7_found_25 : decode cX7_found 25 = .ok (.iaload, 1) := by decide +kernel
theorem dX7_found_26 : decode cX7_found 26 = .ok (.goto 4, 3) := by decide +kernel
theorem dX7_found_29 : decode cX7_found 29 = .ok (.iconst (-1), 1) := by decide +kernel
theorem dX7_found_30 : decode cX7_found 30 = .ok (.ireturn, 1) := by decide +kernel
