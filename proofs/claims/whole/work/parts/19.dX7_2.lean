theorem dX7_compares_174 : decode cX7_compares 174 = .ok (.aload_n 0, 1) := by decide +kernel
theorem dX7_compares_175 : decode cX7_compares 175 = .ok (.getfield 96, 3) := by decide +kernel
theorem dX7_compares_178 : decode cX7_compares 178 = .ok (.iload_n 1, 1) := by decide +kernel
theorem dX7_compares_179 : decode cX7_compares 179 = .ok (.iconst 0, 1) := by decide +kernel
theorem dX7_compares_180 : decode cX7_compares 180 = .ok (.iastore, 1) := by decide +kernel
theorem dX7_compares_181 : decode cX7_compares 181 = .ok (.return_, 1) := by decide +kernel
theorem dX7_isFit_0 : decode cX7_isFit 0 = .ok (.aload_n 0, 1) := by decide +kernel
theorem dX7_isFit_1 : decode cX7_isFit 1 = .ok (.getfield 90, 3) := by decide +kernel
theorem dX7_isFit_4 : decode cX7_isFit 4 = .ok (.iload_n 1, 1) := by decide +kernel
theorem dX7_isFit_5 : decode cX7_isFit 5 = .ok (.iaload, 1) := by decide +kernel
theorem dX7_isFit_6 : decode cX7_isFit 6 = .ok (.istore_n 2, 1) := by decide +kernel
theorem dX7_isFit_7 : decode cX7_isFit 7 = .ok (.aload_n 0, 1) := by decide +kernel
theorem dX7_isFit_8 : decode cX7_isFit 8 = .ok (.iload_n 2, 1) := by decide +kernel
theorem dX7_isFit_9 : decode cX7_isFit 9 = .ok (.aload_n 0, 1) := by decide +kernel
theorem dX7_isFit_10 : decode cX7_isFit 10 = .ok (.getfield 93, 3) := by decide +kernel
theorem dX7_isFit_13 : decode cX7_isFit 13 = .ok (.iload_n 1, 1) := by decide +kernel
theorem dX7_isFit_14 : decode cX7_isFit 14 = .ok (.iaload, 1) := by decide +kernel
theorem dX7_isFit_15 : decode cX7_isFit 15 = .ok (.invokevirtual 174, 3) := by decide +kernel
theorem dX7_isFit_18 : decode cX7_isFit 18 = .ok (.istore_n 3, 1) := by decide +kernel
theorem dX7_isFit_19 : decode cX7_isFit 19 = .ok (.aload_n 0, 1) := by decide +kernel
theorem dX7_isFit_20 : decode cX7_isFit 20 = .ok (.getfield 148, 3) := by decide +kernel
theorem dX7_isFit_23 : decode cX7_isFit 23 = .ok (.iconst 4, 1) := by decide +kernel
theorem dX7_isFit_24 : decode cX7_isFit 24 = .ok (.iload_n 2, 1) := by decide +kernel
theorem dX7_isFit_25 : decode cX7_isFit 25 = .ok (.imul, 1) := by decide +kernel
theorem dX7_isFit_26 : decode cX7_isFit 26 = .ok (.aload_n 0, 1) := by decide +kernel
theorem dX7_isFit_27 : decode cX7_isFit 27 = .ok (.getfield 93, 3) := by decide +kernel
theorem dX7_isFit_30 : decode cX7_isFit 30 = .ok (.iload_n 1, 1) := by decide +kernel
theorem dX7_isFit_31 : decode cX7_isFit 31 = .ok (.iaload, 1) := by decide +kernel
theorem dX7_isFit_32 : decode cX7_isFit 32 = .ok (.iadd, 1) := by decide +kernel
theorem dX7_isFit_33 : decode cX7_isFit 33 = .ok (.bipush (-2), 2) := by decide +kernel
theorem dX7_isFit_35 : decode cX7_isFit 35 = .ok (.iastore, 1) := by decide +kernel
theorem dX7_isFit_36 : decode cX7_isFit 36 = .ok (.aload_n 0, 1) := by decide +kernel
theorem dX7_isFit_37 : decode cX7_isFit 37 = .ok (.getfield 66, 3) := by decide +kernel
theorem dX7_isFit_40 : decode cX7_isFit 40 = .ok (.iload_n 2, 1) := by decide +kernel
theorem dX7_isFit_41 : decode cX7_isFit 41 = .ok (.aload_n 0, 1) := by decide +kernel
theorem dX7_isFit_42 : decode cX7_isFit 42 = .ok (.getfield 38, 3) := by decide +kernel
theorem dX7_isFit_45 : decode cX7_isFit 45 = .ok (.iload_n 3, 1) := by decide +kernel
theorem dX7_isFit_46 : decode cX7_isFit 46 = .ok (.iaload, 1) := by decide +kernel
theorem dX7_isFit_47 : decode cX7_isFit 47 = .ok (.iastore, 1) := by decide +kernel
theorem dX7_isFit_48 : decode cX7_isFit 48 = .ok (.aload_n 0, 1) := by decide +kernel
theorem dX7_isFit_49 : decode cX7_isFit 49 = .ok (.getfield 69, 3) := by decide +kernel
theorem dX7_isFit_52 : decode cX7_isFit 52 = .ok (.iload_n 2, 1) := by decide +kernel
theorem dX7_isFit_53 : decode cX7_isFit 53 = .ok (.aload_n 0, 1) := by decide +kernel
theorem dX7_isFit_54 : decode cX7_isFit 54 = .ok (.getfield 41, 3) := by decide +kernel
theorem dX7_isFit_57 : decode cX7_isFit 57 = .ok (.iload_n 3, 1) := by decide +kernel
theorem dX7_isFit_58 : decode cX7_isFit 58 = .ok (.iaload, 1) := by decide +kernel
theorem dX7_isFit_59 : decode cX7_isFit 59 = .ok (.iastore, 1) := by decide +kernel
theorem dX7_isFit_60 : decode cX7_isFit 60 = .ok (.aload_n 0, 1) := by decide +kernel
theorem dX7_isFit_61 : decode cX7_isFit 61 = .ok (.getfield 72, 3) := by decide +kernel
theorem dX7_isFit_64 : decode cX7_isFit 64 = .ok (.iload_n 2, 1) := by decide +kernel
theorem dX7_isFit_65 : decode cX7_isFit 65 = .ok (.aload_n 0, 1) := by decide +kernel
theorem dX7_isFit_66 : decode cX7_isFit 66 = .ok (.getfield 44, 3) := by decide +kernel
theorem dX7_isFit_69 : decode cX7_isFit 69 = .ok (.iload_n 3, 1) := by decide +kernel
theorem dX7_isFit_70 : decode cX7_isFit 70 = .ok (.iaload, 1) := by decide +kernel
theorem dX7_isFit_71 : decode cX7_isFit 71 = .ok (.iastore, 1) := by decide +kernel
theorem dX7_isFit_72 : decode cX7_isFit 72 = .ok (.iconst 0, 1) := by decide +kernel
theorem dX7_isFit_73 : decode cX7_isFit 73 = .ok (.istore 4, 2) := by decide +kernel
theorem dX7_isFit_75 : decode cX7_isFit 75 = .ok (.iload 4, 2) := by decide +kernel
theorem dX7_isFit_77 : decode cX7_isFit 77 = .ok (.aload_n 0, 1) := by decide +kernel
theorem dX7_isFit_78 : decode cX7_isFit 78 = .ok (.getfield 66, 3) := by decide +kernel
theorem dX7_isFit_81 : decode cX7_isFit 81 = .ok (.iload_n 2, 1) := by decide +kernel
theorem dX7_isFit_82 : decode cX7_isFit 82 = .ok (.iaload, 1) := by decide +kernel
theorem dX7_isFit_83 : decode cX7_isFit 83 = .ok (.if_icmp .ge 33, 3) := by decide +kernel
theorem dX7_isFit_86 : decode cX7_isFit 86 = .ok (.aload_n 0, 1) := by decide +kernel
theorem dX7_isFit_87 : decode cX7_isFit 87 = .ok (.getfield 75, 3) := by decide +kernel
theorem dX7_isFit_90 : decode cX7_isFit 90 = .ok (.bipush 24, 2) := by decide +kernel
theorem dX7_isFit_92 : decode cX7_isFit 92 = .ok (.iload_n 2, 1) := by decide +kernel
theorem dX7_isFit_93 : decode cX7_isFit 93 = .ok (.imul, 1) := by decide +kernel
theorem dX7_isFit_94 : decode cX7_isFit 94 = .ok (.iload 4, 2) := by decide +kernel
theorem dX7_isFit_96 : decode cX7_isFit 96 = .ok (.iadd, 1) := by decide +kernel
theorem dX7_isFit_97 : decode cX7_isFit 97 = .ok (.aload_n 0, 1) := by decide +kernel
theorem dX7_isFit_98 : decode cX7_isFit 98 = .ok (.getfield 47, 3) := by decide +kernel
theorem dX7_isFit_101 : decode cX7_isFit 101 = .ok (.bipush 24, 2) := by decide +kernel
theorem dX7_isFit_103 : decode cX7_isFit 103 = .ok (.iload_n 3, 1) := by decide +kernel
theorem dX7_isFit_104 : decode cX7_isFit 104 = .ok (.imul, 1) := by decide +kernel
theorem dX7_isFit_105 : decode cX7_isFit 105 = .ok (.iload 4, 2) := by decide +kernel
theorem dX7_isFit_107 : decode cX7_isFit 107 = .ok (.iadd, 1) := by decide +kernel
theorem dX7_isFit_108 : decode cX7_isFit 108 = .ok (.iaload, 1) := by decide +kernel
theorem dX7_isFit_109 : decode cX7_isFit 109 = .ok (.iastore, 1) := by decide +kernel
theorem dX7_isFit_110 : decode cX7_isFit 110 = .ok (.iinc 4 1, 3) := by decide +kernel
theorem dX7_isFit_113 : decode cX7_isFit 113 = .ok (.goto (-38), 3) := by decide +kernel
theorem dX7_isFit_116 : decode cX7_isFit 116 = .ok (.aload_n 0, 1) := by decide +kernel
theorem dX7_isFit_117 : decode cX7_isFit 117 = .ok (.iload_n 2, 1) := by decide +kernel
theorem dX7_isFit_118 : decode cX7_isFit 118 = .ok (.iload_n 3, 1) := by decide +kernel
theorem dX7_isFit_119 : decode cX7_isFit 119 = .ok (.iconst 4, 1) := by decide +kernel
theorem dX7_isFit_120 : decode cX7_isFit 120 = .ok (.iload_n 2, 1) := by decide +kernel
theorem dX7_isFit_121 : decode cX7_isFit 121 = .ok (.imul, 1) := by decide +kernel
theorem dX7_isFit_122 : decode cX7_isFit 122 = .ok (.isub, 1) := by decide +kernel
theorem dX7_isFit_123 : decode cX7_isFit 123 = .ok (.aload_n 0, 1) := by decide +kernel
theorem dX7_isFit_124 : decode cX7_isFit 124 = .ok (.getfield 93, 3) := by decide +kernel
theorem dX7_isFit_127 : decode cX7_isFit 127 = .ok (.iload_n 1, 1) := by decide +kernel
theorem dX7_isFit_128 : decode cX7_isFit 128 = .ok (.iaload, 1) := by decide +kernel
theorem dX7_isFit_129 : decode cX7_isFit 129 = .ok (.invokevirtual 254, 3) := by decide +kernel
theorem dX7_isFit_132 : decode cX7_isFit 132 = .ok (.aload_n 0, 1) := by decide +kernel
theorem dX7_isFit_133 : decode cX7_isFit 133 = .ok (.iload_n 2, 1) := by decide +kernel
theorem dX7_isFit_134 : decode cX7_isFit 134 = .ok (.invokevirtual 245, 3) := by decide +kernel
theorem dX7_isFit_137 : decode cX7_isFit 137 = .ok (.return_, 1) := by decide +kernel
theorem dX7_used_0 : decode cX7_used 0 = .ok (.iload_n 3, 1) := by decide +kernel
theorem dX7_used_1 : decode cX7_used 1 = .ok (.istore 4, 2) := by decide +kernel
theorem dX7_used_3 : decode cX7_used 3 = .ok (.iload 4, 2) := by decide +kernel
theorem dX7_used_5 : decode cX7_used 5 = .ok (.ifCond .le 33, 3) := by decide +kernel
theorem dX7_used_8 : decode cX7_used 8 = .ok (.aload_n 0, 1) := by decide +kernel
theorem dX7_used_9 : decode cX7_used 9 = .ok (.getfield 32, 3) := by decide +kernel
theorem dX7_used_12 : decode cX7_used 12 = .ok (.iconst 4, 1) := by decide +kernel
theorem dX7_used_13 : decode cX7_used 13 = .ok (.iload_n 1, 1) := by decide +kernel
theorem dX7_used_14 : decode cX7_used 14 = .ok (.imul, 1) := by decide +kernel
theorem dX7_used_15 : decode cX7_used 15 = .ok (.iload 4, 2) := by decide +kernel
theorem dX7_used_17 : decode cX7_used 17 = .ok (.iadd, 1) := by decide +kernel
theorem dX7_used_18 : decode cX7_used 18 = .ok (.aload_n 0, 1) := by decide +kernel
theorem dX7_used_19 : decode cX7_used 19 = .ok (.getfield 32, 3) := by decide +kernel
theorem dX7_used_22 : decode cX7_used 22 = .ok (.iconst 4, 1) := by decide +kernel
theorem dX7_used_23 : decode cX7_used 23 = .ok (.iload_n 1, 1) := by decide +kernel
theorem dX7_used_24 : decode cX7_used 24 = .ok (.imul, 1) := by decide +kernel
theorem dX7_used_25 : decode cX7_used 25 = .ok (.iload 4, 2) := by decide +kernel
theorem dX7_used_27 : decode cX7_used 27 = .ok (.iadd, 1) := by decide +kernel
theorem dX7_used_28 : decode cX7_used 28 = .ok (.iconst 1, 1) := by decide +kernel
theorem dX7_used_29 : decode cX7_used 29 = .ok (.isub, 1) := by decide +kernel
theorem dX7_used_30 : decode cX7_used 30 = .ok (.iaload, 1) := by decide +kernel
theorem dX7_used_31 : decode cX7_used 31 = .ok (.iastore, 1) := by decide +kernel
theorem dX7_used_32 : decode cX7_used 32 = .ok (.iinc 4 (-1), 3) := by decide +kernel
theorem dX7_used_35 : decode cX7_used 35 = .ok (.goto (-32), 3) := by decide +kernel
theorem dX7_used_38 : decode cX7_used 38 = .ok (.aload_n 0, 1) := by decide +kernel
theorem dX7_used_39 : decode cX7_used 39 = .ok (.getfield 32, 3) := by decide +kernel
theorem dX7_used_42 : decode cX7_used 42 = .ok (.iconst 4, 1) := by decide +kernel
theorem dX7_used_43 : decode cX7_used 43 = .ok (.iload_n 1, 1) := by decide +kernel
theorem dX7_used_44 : decode cX7_used 44 = .ok (.imul, 1) := by decide +kernel
theorem dX7_used_45 : decode cX7_used 45 = .ok (.iload_n 2, 1) := by decide +kernel
theorem dX7_used_46 : decode cX7_used 46 = .ok (.iastore, 1) := by decide +kernel
theorem dX7_used_47 : decode cX7_used 47 = .ok (.return_, 1) := by decide +kernel
theorem dX7_freeSlot_0 : decode cX7_freeSlot 0 = .ok (.aload_n 0, 1) := by decide +kernel
theorem dX7_freeSlot_1 : decode cX7_freeSlot 1 = .ok (.getfield 29, 3) := by decide +kernel
theorem dX7_freeSlot_4 : decode cX7_freeSlot 4 = .ok (.iload_n 1, 1) := by decide +kernel
theorem dX7_freeSlot_5 : decode cX7_freeSlot 5 = .ok (.iaload, 1) := by decide +kernel
theorem dX7_freeSlot_6 : decode cX7_freeSlot 6 = .ok (.iconst 4, 1) := by decide +kernel
theorem dX7_freeSlot_7 : decode cX7_freeSlot 7 = .ok (.if_icmp .ne 16, 3) := by decide +kernel
theorem dX7_freeSlot_10 : decode cX7_freeSlot 10 = .ok (.aload_n 0, 1) := by decide +kernel
theorem dX7_freeSlot_11 : decode cX7_freeSlot 11 = .ok (.getfield 32, 3) := by decide +kernel
theorem dX7_freeSlot_14 : decode cX7_freeSlot 14 = .ok (.iconst 4, 1) := by decide +kernel
theorem dX7_freeSlot_15 : decode cX7_freeSlot 15 = .ok (.iload_n 1, 1) := by decide +kernel
theorem dX7_freeSlot_16 : decode cX7_freeSlot 16 = .ok (.imul, 1) := by decide +kernel
theorem dX7_freeSlot_17 : decode cX7_freeSlot 17 = .ok (.iconst 4, 1) := by decide +kernel
theorem dX7_freeSlot_18 : decode cX7_freeSlot 18 = .ok (.iadd, 1) := by decide +kernel
theorem dX7_freeSlot_19 : decode cX7_freeSlot 19 = .ok (.iconst 1, 1) := by decide +kernel
theorem dX7_freeSlot_20 : decode cX7_freeSlot 20 = .ok (.isub, 1) := by decide +kernel
theorem dX7_freeSlot_21 : decode cX7_freeSlot 21 = .ok (.iaload, 1) := by decide +kernel
theorem dX7_freeSlot_22 : decode cX7_freeSlot 22 = .ok (.ireturn, 1) := by decide +kernel
theorem dX7_freeSlot_23 : decode cX7_freeSlot 23 = .ok (.iconst 0, 1) := by decide +kernel
theorem dX7_freeSlot_24 : decode cX7_freeSlot 24 = .ok (.istore_n 2, 1) := by decide +kernel
theorem dX7_freeSlot_25 : decode cX7_freeSlot 25 = .ok (.iconst 1, 1) := by decide +kernel
theorem dX7_freeSlot_26 : decode cX7_freeSlot 26 = .ok (.istore_n 3, 1) := by decide +kernel
theorem dX7_freeSlot_27 : decode cX7_freeSlot 27 = .ok (.iload_n 3, 1) := by decide +kernel
theorem dX7_freeSlot_28 : decode cX7_freeSlot 28 = .ok (.ifCond .eq 60, 3) := by decide +kernel
theorem dX7_freeSlot_31 : decode cX7_freeSlot 31 = .ok (.iconst 0, 1) := by decide +kernel
theorem dX7_freeSlot_32 : decode cX7_freeSlot 32 = .ok (.istore_n 3, 1) := by decide +kernel
theorem dX7_freeSlot_33 : decode cX7_freeSlot 33 = .ok (.iconst 0, 1) := by decide +kernel
theorem dX7_freeSlot_34 : decode cX7_freeSlot 34 = .ok (.istore 4, 2) := by decide +kernel
theorem dX7_freeSlot_36 : decode cX7_freeSlot 36 = .ok (.iload 4, 2) := by decide +kernel
theorem dX7_freeSlot_38 : decode cX7_freeSlot 38 = .ok (.aload_n 0, 1) := by decide +kernel
theorem dX7_freeSlot_39 : decode cX7_freeSlot 39 = .ok (.getfield 29, 3) := by decide +kernel
theorem dX7_freeSlot_42 : decode cX7_freeSlot 42 = .ok (.iload_n 1, 1) := by decide +kernel
theorem dX7_freeSlot_43 : decode cX7_freeSlot 43 = .ok (.iaload, 1) := by decide +kernel
theorem dX7_freeSlot_44 : decode cX7_freeSlot 44 = .ok (.if_icmp .ge 34, 3) := by decide +kernel
theorem dX7_freeSlot_47 : decode cX7_freeSlot 47 = .ok (.iload_n 3, 1) := by decide +kernel
theorem dX7_freeSlot_48 : decode cX7_freeSlot 48 = .ok (.ifCond .ne 18, 3) := by decide +kernel
theorem dX7_freeSlot_51 : decode cX7_freeSlot 51 = .ok (.aload_n 0, 1) := by decide +kernel
theorem dX7_freeSlot_52 : decode cX7_freeSlot 52 = .ok (.getfield 32, 3) := by decide +kernel
theorem dX7_freeSlot_55 : decode cX7_freeSlot 55 = .ok (.iconst 4, 1) := by decide +kernel
theorem dX7_freeSlot_56 : decode cX7_freeSlot 56 = .ok (.iload_n 1, 1) := by decide +kernel
theorem dX7_freeSlot_57 : decode cX7_freeSlot 57 = .ok (.imul, 1) := by decide +kernel
theorem dX7_freeSlot_58 : decode cX7_freeSlot 58 = .ok (.iload 4, 2) := by decide +kernel
theorem dX7_freeSlot_60 : decode cX7_freeSlot 60 = .ok (.iadd, 1) := by decide +kernel
theorem dX7_freeSlot_61 : decode cX7_freeSlot 61 = .ok (.iaload, 1) := by decide +kernel
theorem dX7_freeSlot_62 : decode cX7_freeSlot 62 = .ok (.iload_n 2, 1) := by decide +kernel
theorem dX7_freeSlot_63 : decode cX7_freeSlot 63 = .ok (.if_icmp .ne 7, 3) := by decide +kernel
theorem dX7_freeSlot_66 : decode cX7_freeSlot 66 = .ok (.iconst 1, 1) := by decide +kernel
theorem dX7_freeSlot_67 : decode cX7_freeSlot 67 = .ok (.goto 4, 3) := by decide +kernel
theorem dX7_freeSlot_70 : decode cX7_freeSlot 70 = .ok (.iconst 0, 1) := by decide +kernel
theorem dX7_freeSlot_71 : decode cX7_freeSlot 71 = .ok (.istore_n 3, 1) := by decide +kernel
theorem dX7_freeSlot_72 : decode cX7_freeSlot 72 = .ok (.iinc 4 1, 3) := by decide +kernel
theorem dX7_freeSlot_75 : decode cX7_freeSlot 75 = .ok (.goto (-39), 3) := by decide +kernel
theorem dX7_freeSlot_78 : decode cX7_freeSlot 78 = .ok (.iload_n 3, 1) := by decide +kernel
theorem dX7_freeSlot_79 : decode cX7_freeSlot 79 = .ok (.ifCond .eq (-52), 3) := by decide +kernel
theorem dX7_freeSlot_82 : decode cX7_freeSlot 82 = .ok (.iinc 2 1, 3) := by decide +kernel
theorem dX7_freeSlot_85 : decode cX7_freeSlot 85 = .ok (.goto (-58), 3) := by decide +kernel
theorem dX7_freeSlot_88 : decode cX7_freeSlot 88 = .ok (.iload_n 2, 1) := by decide +kernel
theorem dX7_freeSlot_89 : decode cX7_freeSlot 89 = .ok (.ireturn, 1) := by decide +kernel
theorem dX7_keeps_0 : decode cX7_keeps 0 = .ok (.aload_n 0, 1) := by decide +kernel
theorem dX7_keeps_1 : decode cX7_keeps 1 = .ok (.getfield 90, 3) := by decide +kernel
theorem dX7_keeps_4 : decode cX7_keeps 4 = .ok (.iload_n 1, 1) := by decide +kernel
theorem dX7_keeps_5 : decode cX7_keeps 5 = .ok (.iaload, 1) := by decide +kernel
theorem dX7_keeps_6 : decode cX7_keeps 6 = .ok (.istore_n 2, 1) := by decide +kernel
theorem dX7_keeps_7 : decode cX7_keeps 7 = .ok (.aload_n 0, 1) := by decide +kernel
theorem dX7_keeps_8 : decode cX7_keeps 8 = .ok (.iload_n 2, 1) := by decide +kernel
theorem dX7_keeps_9 : decode cX7_keeps 9 = .ok (.invokevirtual 258, 3) := by decide +kernel
theorem dX7_keeps_12 : decode cX7_keeps 12 = .ok (.istore_n 3, 1) := by decide +kernel
theorem dX7_keeps_13 : decode cX7_keeps 13 = .ok (.iconst 4, 1) := by decide +kernel
theorem dX7_keeps_14 : decode cX7_keeps 14 = .ok (.iload_n 2, 1) := by decide +kernel
theorem dX7_keeps_15 : decode cX7_keeps 15 = .ok (.imul, 1) := by decide +kernel
theorem dX7_keeps_16 : decode cX7_keeps 16 = .ok (.iload_n 3, 1) := by decide +kernel
theorem dX7_keeps_17 : decode cX7_keeps 17 = .ok (.iadd, 1) := by decide +kernel
theorem dX7_keeps_18 : decode cX7_keeps 18 = .ok (.istore 4, 2) := by decide +kernel
theorem dX7_keeps_20 : decode cX7_keeps 20 = .ok (.aload_n 0, 1) := by decide +kernel
theorem dX7_keeps_21 : decode cX7_keeps 21 = .ok (.getfield 29, 3) := by decide +kernel
theorem dX7_keeps_24 : decode cX7_keeps 24 = .ok (.iload_n 2, 1) := by decide +kernel
theorem dX7_keeps_25 : decode cX7_keeps 25 = .ok (.iaload, 1) := by decide +kernel
theorem dX7_keeps_26 : decode cX7_keeps 26 = .ok (.iconst 4, 1) := by decide +kernel
theorem dX7_keeps_27 : decode cX7_keeps 27 = .ok (.if_icmp .ge 13, 3) := by decide +kernel
theorem dX7_keeps_30 : decode cX7_keeps 30 = .ok (.aload_n 0, 1) := by decide +kernel
theorem dX7_keeps_31 : decode cX7_keeps 31 = .ok (.getfield 29, 3) := by decide +kernel
theorem dX7_keeps_34 : decode cX7_keeps 34 = .ok (.iload_n 2, 1) := by decide +kernel
theorem dX7_keeps_35 : decode cX7_keeps 35 = .ok (.dup2, 1) := by decide +kernel
theorem dX7_keeps_36 : decode cX7_keeps 36 = .ok (.iaload, 1) := by decide +kernel
theorem dX7_keeps_37 : decode cX7_keeps 37 = .ok (.iconst 1, 1) := by decide +kernel
theorem dX7_keeps_38 : decode cX7_keeps 38 = .ok (.iadd, 1) := by decide +kernel
theorem dX7_keeps_39 : decode cX7_keeps 39 = .ok (.iastore, 1) := by decide +kernel
theorem dX7_keeps_40 : decode cX7_keeps 40 = .ok (.aload_n 0, 1) := by decide +kernel
theorem dX7_keeps_41 : decode cX7_keeps 41 = .ok (.iload_n 2, 1) := by decide +kernel
theorem dX7_keeps_42 : decode cX7_keeps 42 = .ok (.iload_n 3, 1) := by decide +kernel
theorem dX7_keeps_43 : decode cX7_keeps 43 = .ok (.aload_n 0, 1) := by decide +kernel
theorem dX7_keeps_44 : decode cX7_keeps 44 = .ok (.getfield 29, 3) := by decide +kernel
theorem dX7_keeps_47 : decode cX7_keeps 47 = .ok (.iload_n 2, 1) := by decide +kernel
theorem dX7_keeps_48 : decode cX7_keeps 48 = .ok (.iaload, 1) := by decide +kernel
theorem dX7_keeps_49 : decode cX7_keeps 49 = .ok (.iconst 1, 1) := by decide +kernel
theorem dX7_keeps_50 : decode cX7_keeps 50 = .ok (.isub, 1) := by decide +kernel
theorem dX7_keeps_51 : decode cX7_keeps 51 = .ok (.invokevirtual 254, 3) := by decide +kernel
theorem dX7_keeps_54 : decode cX7_keeps 54 = .ok (.aload_n 0, 1) := by decide +kernel
theorem dX7_keeps_55 : decode cX7_keeps 55 = .ok (.getfield 35, 3) := by decide +kernel
theorem dX7_keeps_58 : decode cX7_keeps 58 = .ok (.iload 4, 2) := by decide +kernel
theorem dX7_keeps_60 : decode cX7_keeps 60 = .ok (.aload_n 0, 1) := by decide +kernel
theorem dX7_keeps_61 : decode cX7_keeps 61 = .ok (.getfield 96, 3) := by decide +kernel
theorem dX7_keeps_64 : decode cX7_keeps 64 = .ok (.iload_n 1, 1) := by decide +kernel
theorem dX7_keeps_65 : decode cX7_keeps 65 = .ok (.iaload, 1) := by decide +kernel
theorem dX7_keeps_66 : decode cX7_keeps 66 = .ok (.iastore, 1) := by decide +kernel
theorem dX7_keeps_67 : decode cX7_keeps 67 = .ok (.aload_n 0, 1) := by decide +kernel
theorem dX7_keeps_68 : decode cX7_keeps 68 = .ok (.getfield 38, 3) := by decide +kernel
theorem dX7_keeps_71 : decode cX7_keeps 71 = .ok (.iload 4, 2) := by decide +kernel
theorem dX7_keeps_73 : decode cX7_keeps 73 = .ok (.aload_n 0, 1) := by decide +kernel
theorem dX7_keeps_74 : decode cX7_keeps 74 = .ok (.getfield 66, 3) := by decide +kernel
theorem dX7_keeps_77 : decode cX7_keeps 77 = .ok (.iload_n 2, 1) := by decide +kernel
theorem dX7_keeps_78 : decode cX7_keeps 78 = .ok (.iaload, 1) := by decide +kernel
theorem dX7_keeps_79 : decode cX7_keeps 79 = .ok (.iastore, 1) := by decide +kernel
theorem dX7_keeps_80 : decode cX7_keeps 80 = .ok (.aload_n 0, 1) := by decide +kernel
theorem dX7_keeps_81 : decode cX7_keeps 81 = .ok (.getfield 41, 3) := by decide +kernel
theorem dX7_keeps_84 : decode cX7_keeps 84 = .ok (.iload 4, 2) := by decide +kernel
theorem dX7_keeps_86 : decode cX7_keeps 86 = .ok (.aload_n 0, 1) := by decide +kernel
theorem dX7_keeps_87 : decode cX7_keeps 87 = .ok (.getfield 69, 3) := by decide +kernel
theorem dX7_keeps_90 : decode cX7_keeps 90 = .ok (.iload_n 2, 1) := by decide +kernel
theorem dX7_keeps_91 : decode cX7_keeps 91 = .ok (.iaload, 1) := by decide +kernel
theorem dX7_keeps_92 : decode cX7_keeps 92 = .ok (.iastore, 1) := by decide +kernel
theorem dX7_keeps_93 : decode cX7_keeps 93 = .ok (.aload_n 0, 1) := by decide +kernel
theorem dX7_keeps_94 : decode cX7_keeps 94 = .ok (.getfield 44, 3) := by decide +kernel
theorem dX7_keeps_97 : decode cX7_keeps 97 = .ok (.iload 4, 2) := by decide +kernel
theorem dX7_keeps_99 : decode cX7_keeps 99 = .ok (.aload_n 0, 1) := by decide +kernel
theorem dX7_keeps_100 : decode cX7_keeps 100 = .ok (.getfield 72, 3) := by decide +kernel
theorem dX7_keeps_103 : decode cX7_keeps 103 = .ok (.iload_n 2, 1) := by decide +kernel
theorem dX7_keeps_104 : decode cX7_keeps 104 = .ok (.iaload, 1) := by decide +kernel
theorem dX7_keeps_105 : decode cX7_keeps 105 = .ok (.iastore, 1) := by decide +kernel
theorem dX7_keeps_106 : decode cX7_keeps 106 = .ok (.iconst 0, 1) := by decide +kernel
theorem dX7_keeps_107 : decode cX7_keeps 107 = .ok (.istore 5, 2) := by decide +kernel
theorem dX7_keeps_109 : decode cX7_keeps 109 = .ok (.iload 5, 2) := by decide +kernel
theorem dX7_keeps_111 : decode cX7_keeps 111 = .ok (.aload_n 0, 1) := by decide +kernel
theorem dX7_keeps_112 : decode cX7_keeps 112 = .ok (.getfield 66, 3) := by decide +kernel
theorem dX7_keeps_115 : decode cX7_keeps 115 = .ok (.iload_n 2, 1) := by decide +kernel
theorem dX7_keeps_116 : decode cX7_keeps 116 = .ok (.iaload, 1) := by decide +kernel
theorem dX7_keeps_117 : decode cX7_keeps 117 = .ok (.if_icmp .ge 34, 3) := by decide +kernel
theorem dX7_keeps_120 : decode cX7_keeps 120 = .ok (.aload_n 0, 1) := by decide +kernel
theorem dX7_keeps_121 : decode cX7_keeps 121 = .ok (.getfield 47, 3) := by decide +kernel
theorem dX7_keeps_124 : decode cX7_keeps 124 = .ok (.bipush 24, 2) := by decide +kernel
theorem dX7_keeps_126 : decode cX7_keeps 126 = .ok (.iload 4, 2) := by decide +kernel
theorem dX7_keeps_128 : decode cX7_keeps 128 = .ok (.imul, 1) := by decide +kernel
theorem dX7_keeps_129 : decode cX7_keeps 129 = .ok (.iload 5, 2) := by decide +kernel
theorem dX7_keeps_131 : decode cX7_keeps 131 = .ok (.iadd, 1) := by decide +kernel
theorem dX7_keeps_132 : decode cX7_keeps 132 = .ok (.aload_n 0, 1) := by decide +kernel
theorem dX7_keeps_133 : decode cX7_keeps 133 = .ok (.getfield 75, 3) := by decide +kernel
theorem dX7_keeps_136 : decode cX7_keeps 136 = .ok (.bipush 24, 2) := by decide +kernel
theorem dX7_keeps_138 : decode cX7_keeps 138 = .ok (.iload_n 2, 1) := by decide +kernel
theorem dX7_keeps_139 : decode cX7_keeps 139 = .ok (.imul, 1) := by decide +kernel
theorem dX7_keeps_140 : decode cX7_keeps 140 = .ok (.iload 5, 2) := by decide +kernel
theorem dX7_keeps_142 : decode cX7_keeps 142 = .ok (.iadd, 1) := by decide +kernel
theorem dX7_keeps_143 : decode cX7_keeps 143 = .ok (.iaload, 1) := by decide +kernel
theorem dX7_keeps_144 : decode cX7_keeps 144 = .ok (.iastore, 1) := by decide +kernel
theorem dX7_keeps_145 : decode cX7_keeps 145 = .ok (.iinc 5 1, 3) := by decide +kernel
theorem dX7_keeps_148 : decode cX7_keeps 148 = .ok (.goto (-39), 3) := by decide +kernel
theorem dX7_keeps_151 : decode cX7_keeps 151 = .ok (.iconst 0, 1) := by decide +kernel
theorem dX7_keeps_152 : decode cX7_keeps 152 = .ok (.istore 5, 2) := by decide +kernel
theorem dX7_keeps_154 : decode cX7_keeps 154 = .ok (.iload 5, 2) := by decide +kernel
theorem dX7_keeps_156 : decode cX7_keeps 156 = .ok (.aload_n 0, 1) := by decide +kernel
theorem dX7_keeps_157 : decode cX7_keeps 157 = .ok (.getfield 96, 3) := by decide +kernel
theorem dX7_keeps_160 : decode cX7_keeps 160 = .ok (.iload_n 1, 1) := by decide +kernel
theorem dX7_keeps_161 : decode cX7_keeps 161 = .ok (.iaload, 1) := by decide +kernel
theorem dX7_keeps_162 : decode cX7_keeps 162 = .ok (.if_icmp .ge 28, 3) := by decide +kernel
theorem dX7_keeps_165 : decode cX7_keeps 165 = .ok (.aload_n 0, 1) := by decide +kernel
theorem dX7_keeps_166 : decode cX7_keeps 166 = .ok (.bipush 25, 2) := by decide +kernel
theorem dX7_keeps_168 : decode cX7_keeps 168 = .ok (.iload_n 1, 1) := by decide +kernel
theorem dX7_keeps_169 : decode cX7_keeps 169 = .ok (.imul, 1) := by decide +kernel
theorem dX7_keeps_170 : decode cX7_keeps 170 = .ok (.iload 5, 2) := by decide +kernel
theorem dX7_keeps_172 : decode cX7_keeps 172 = .ok (.iadd, 1) := by decide +kernel
theorem dX7_keeps_173 : decode cX7_keeps 173 = .ok (.bipush 25, 2) := by decide +kernel
theorem dX7_keeps_175 : decode cX7_keeps 175 = .ok (.iload 4, 2) := by decide +kernel
theorem dX7_keeps_177 : decode cX7_keeps 177 = .ok (.imul, 1) := by decide +kernel
theorem dX7_keeps_178 : decode cX7_keeps 178 = .ok (.iload 5, 2) := by decide +kernel
theorem dX7_keeps_180 : decode cX7_keeps 180 = .ok (.iadd, 1) := by decide +kernel
theorem dX7_keeps_181 : decode cX7_keeps 181 = .ok (.invokevirtual 261, 3) := by decide +kernel
theorem dX7_keeps_184 : decode cX7_keeps 184 = .ok (.iinc 5 1, 3) := by decide +kernel
theorem dX7_keeps_187 : decode cX7_keeps 187 = .ok (.goto (-33), 3) := by decide +kernel
theorem dX7_keeps_190 : decode cX7_keeps 190 = .ok (.return_, 1) := by decide +kernel
theorem dX7_keepsRead_0 : decode cX7_keepsRead 0 = .ok (.aload_n 0, 1) := by decide +kernel
theorem dX7_keepsRead_1 : decode cX7_keepsRead 1 = .ok (.getfield 50, 3) := by decide +kernel
theorem dX7_keepsRead_4 : decode cX7_keepsRead 4 = .ok (.iload_n 2, 1) := by decide +kernel
theorem dX7_keepsRead_5 : decode cX7_keepsRead 5 = .ok (.aload_n 0, 1) := by decide +kernel
theorem dX7_keepsRead_6 : decode cX7_keepsRead 6 = .ok (.getfield 102, 3) := by decide +kernel
theorem dX7_keepsRead_9 : decode cX7_keepsRead 9 = .ok (.iload_n 1, 1) := by decide +kernel
theorem dX7_keepsRead_10 : decode cX7_keepsRead 10 = .ok (.iaload, 1) := by decide +kernel
theorem dX7_keepsRead_11 : decode cX7_keepsRead 11 = .ok (.iastore, 1) := by decide +kernel
theorem dX7_keepsRead_12 : decode cX7_keepsRead 12 = .ok (.aload_n 0, 1) := by decide +kernel
theorem dX7_keepsRead_13 : decode cX7_keepsRead 13 = .ok (.getfield 53, 3) := by decide +kernel
theorem dX7_keepsRead_16 : decode cX7_keepsRead 16 = .ok (.iload_n 2, 1) := by decide +kernel
theorem dX7_keepsRead_17 : decode cX7_keepsRead 17 = .ok (.aload_n 0, 1) := by decide +kernel
theorem dX7_keepsRead_18 : decode cX7_keepsRead 18 = .ok (.getfield 105, 3) := by decide +kernel
theorem dX7_keepsRead_21 : decode cX7_keepsRead 21 = .ok (.iload_n 1, 1) := by decide +kernel
theorem dX7_keepsRead_22 : decode cX7_keepsRead 22 = .ok (.iaload, 1) := by decide +kernel
theorem dX7_keepsRead_23 : decode cX7_keepsRead 23 = .ok (.iastore, 1) := by decide +kernel
theorem dX7_keepsRead_24 : decode cX7_keepsRead 24 = .ok (.aload_n 0, 1) := by decide +kernel
theorem dX7_keepsRead_25 : decode cX7_keepsRead 25 = .ok (.getfield 56, 3) := by decide +kernel
theorem dX7_keepsRead_28 : decode cX7_keepsRead 28 = .ok (.iload_n 2, 1) := by decide +kernel
theorem dX7_keepsRead_29 : decode cX7_keepsRead 29 = .ok (.aload_n 0, 1) := by decide +kernel
theorem dX7_keepsRead_30 : decode cX7_keepsRead 30 = .ok (.getfield 108, 3) := by decide +kernel
theorem dX7_keepsRead_33 : decode cX7_keepsRead 33 = .ok (.iload_n 1, 1) := by decide +kernel
theorem dX7_keepsRead_34 : decode cX7_keepsRead 34 = .ok (.iaload, 1) := by decide +kernel
theorem dX7_keepsRead_35 : decode cX7_keepsRead 35 = .ok (.iastore, 1) := by decide +kernel
theorem dX7_keepsRead_36 : decode cX7_keepsRead 36 = .ok (.aload_n 0, 1) := by decide +kernel
theorem dX7_keepsRead_37 : decode cX7_keepsRead 37 = .ok (.getfield 59, 3) := by decide +kernel
theorem dX7_keepsRead_40 : decode cX7_keepsRead 40 = .ok (.iload_n 2, 1) := by decide +kernel
theorem dX7_keepsRead_41 : decode cX7_keepsRead 41 = .ok (.aload_n 0, 1) := by decide +kernel
theorem dX7_keepsRead_42 : decode cX7_keepsRead 42 = .ok (.getfield 111, 3) := by decide +kernel
theorem dX7_keepsRead_45 : decode cX7_keepsRead 45 = .ok (.iload_n 1, 1) := by decide +kernel
theorem dX7_keepsRead_46 : decode cX7_keepsRead 46 = .ok (.iaload, 1) := by decide +kernel
theorem dX7_keepsRead_47 : decode cX7_keepsRead 47 = .ok (.iastore, 1) := by decide +kernel
theorem dX7_keepsRead_48 : decode cX7_keepsRead 48 = .ok (.iconst 0, 1) := by decide +kernel
theorem dX7_keepsRead_49 : decode cX7_keepsRead 49 = .ok (.istore_n 3, 1) := by decide +kernel
theorem dX7_keepsRead_50 : decode cX7_keepsRead 50 = .ok (.iload_n 3, 1) := by decide +kernel
theorem dX7_keepsRead_51 : decode cX7_keepsRead 51 = .ok (.aload_n 0, 1) := by decide +kernel
theorem dX7_keepsRead_52 : decode cX7_keepsRead 52 = .ok (.getfield 105, 3) := by decide +kernel
theorem dX7_keepsRead_55 : decode cX7_keepsRead 55 = .ok (.iload_n 1, 1) := by decide +kernel
theorem dX7_keepsRead_56 : decode cX7_keepsRead 56 = .ok (.iaload, 1) := by decide +kernel
theorem dX7_keepsRead_57 : decode cX7_keepsRead 57 = .ok (.if_icmp .ge 31, 3) := by decide +kernel
theorem dX7_keepsRead_60 : decode cX7_keepsRead 60 = .ok (.aload_n 0, 1) := by decide +kernel
theorem dX7_keepsRead_61 : decode cX7_keepsRead 61 = .ok (.getfield 63, 3) := by decide +kernel
theorem dX7_keepsRead_64 : decode cX7_keepsRead 64 = .ok (.bipush 24, 2) := by decide +kernel
theorem dX7_keepsRead_66 : decode cX7_keepsRead 66 = .ok (.iload_n 2, 1) := by decide +kernel
theorem dX7_keepsRead_67 : decode cX7_keepsRead 67 = .ok (.imul, 1) := by decide +kernel
theorem dX7_keepsRead_68 : decode cX7_keepsRead 68 = .ok (.iload_n 3, 1) := by decide +kernel
theorem dX7_keepsRead_69 : decode cX7_keepsRead 69 = .ok (.iadd, 1) := by decide +kernel
theorem dX7_keepsRead_70 : decode cX7_keepsRead 70 = .ok (.aload_n 0, 1) := by decide +kernel
theorem dX7_keepsRead_71 : decode cX7_keepsRead 71 = .ok (.getfield 114, 3) := by decide +kernel
theorem dX7_keepsRead_74 : decode cX7_keepsRead 74 = .ok (.bipush 24, 2) := by decide +kernel
theorem dX7_keepsRead_76 : decode cX7_keepsRead 76 = .ok (.iload_n 1, 1) := by decide +kernel
theorem dX7_keepsRead_77 : decode cX7_keepsRead 77 = .ok (.imul, 1) := by decide +kernel
theorem dX7_keepsRead_78 : decode cX7_keepsRead 78 = .ok (.iload_n 3, 1) := by decide +kernel
theorem dX7_keepsRead_79 : decode cX7_keepsRead 79 = .ok (.iadd, 1) := by decide +kernel
theorem dX7_keepsRead_80 : decode cX7_keepsRead 80 = .ok (.iaload, 1) := by decide +kernel
theorem dX7_keepsRead_81 : decode cX7_keepsRead 81 = .ok (.iastore, 1) := by decide +kernel
theorem dX7_keepsRead_82 : decode cX7_keepsRead 82 = .ok (.iinc 3 1, 3) := by decide +kernel
theorem dX7_keepsRead_85 : decode cX7_keepsRead 85 = .ok (.goto (-35), 3) := by decide +kernel
theorem dX7_keepsRead_88 : decode cX7_keepsRead 88 = .ok (.return_, 1) := by decide +kernel
theorem dX7_begins_0 : decode cX7_begins 0 = .ok (.aload_n 0, 1) := by decide +kernel
theorem dX7_begins_1 : decode cX7_begins 1 = .ok (.getfield 99, 3) := by decide +kernel
theorem dX7_begins_4 : decode cX7_begins 4 = .ok (.iload_n 1, 1) := by decide +kernel
theorem dX7_begins_5 : decode cX7_begins 5 = .ok (.iconst 1, 1) := by decide +kernel
theorem dX7_begins_6 : decode cX7_begins 6 = .ok (.bastore, 1) := by decide +kernel
theorem dX7_begins_7 : decode cX7_begins 7 = .ok (.aload_n 0, 1) := by decide +kernel
theorem dX7_begins_8 : decode cX7_begins 8 = .ok (.getfield 96, 3) := by decide +kernel
theorem dX7_begins_11 : decode cX7_begins 11 = .ok (.iload_n 1, 1) := by decide +kernel
theorem dX7_begins_12 : decode cX7_begins 12 = .ok (.iconst 0, 1) := by decide +kernel
theorem dX7_begins_13 : decode cX7_begins 13 = .ok (.iastore, 1) := by decide +kernel
theorem dX7_begins_14 : decode cX7_begins 14 = .ok (.aload_n 0, 1) := by decide +kernel
theorem dX7_begins_15 : decode cX7_begins 15 = .ok (.getfield 117, 3) := by decide +kernel
theorem dX7_begins_18 : decode cX7_begins 18 = .ok (.iload_n 1, 1) := by decide +kernel
theorem dX7_begins_19 : decode cX7_begins 19 = .ok (.iconst 0, 1) := by decide +kernel
theorem dX7_begins_20 : decode cX7_begins 20 = .ok (.iastore, 1) := by decide +kernel
theorem dX7_begins_21 : decode cX7_begins 21 = .ok (.aload_n 0, 1) := by decide +kernel
theorem dX7_begins_22 : decode cX7_begins 22 = .ok (.getfield 123, 3) := by decide +kernel
theorem dX7_begins_25 : decode cX7_begins 25 = .ok (.iload_n 1, 1) := by decide +kernel
theorem dX7_begins_26 : decode cX7_begins 26 = .ok (.iconst 0, 1) := by decide +kernel
theorem dX7_begins_27 : decode cX7_begins 27 = .ok (.iastore, 1) := by decide +kernel
theorem dX7_begins_28 : decode cX7_begins 28 = .ok (.aload_n 0, 1) := by decide +kernel
theorem dX7_begins_29 : decode cX7_begins 29 = .ok (.getfield 132, 3) := by decide +kernel
theorem dX7_begins_32 : decode cX7_begins 32 = .ok (.iload_n 1, 1) := by decide +kernel
theorem dX7_begins_33 : decode cX7_begins 33 = .ok (.iconst 0, 1) := by decide +kernel
theorem dX7_begins_34 : decode cX7_begins 34 = .ok (.bastore, 1) := by decide +kernel
theorem dX7_begins_35 : decode cX7_begins 35 = .ok (.aload_n 0, 1) := by decide +kernel
theorem dX7_begins_36 : decode cX7_begins 36 = .ok (.getfield 126, 3) := by decide +kernel
theorem dX7_begins_39 : decode cX7_begins 39 = .ok (.iload_n 1, 1) := by decide +kernel
theorem dX7_begins_40 : decode cX7_begins 40 = .ok (.iconst 0, 1) := by decide +kernel
theorem dX7_begins_41 : decode cX7_begins 41 = .ok (.iastore, 1) := by decide +kernel
theorem dX7_begins_42 : decode cX7_begins 42 = .ok (.aload_n 0, 1) := by decide +kernel
theorem dX7_begins_43 : decode cX7_begins 43 = .ok (.getfield 129, 3) := by decide +kernel
theorem dX7_begins_46 : decode cX7_begins 46 = .ok (.iload_n 1, 1) := by decide +kernel
theorem dX7_begins_47 : decode cX7_begins 47 = .ok (.iconst 0, 1) := by decide +kernel
theorem dX7_begins_48 : decode cX7_begins 48 = .ok (.iastore, 1) := by decide +kernel
theorem dX7_begins_49 : decode cX7_begins 49 = .ok (.aload_n 0, 1) := by decide +kernel
theorem dX7_begins_50 : decode cX7_begins 50 = .ok (.getfield 220, 3) := by decide +kernel
theorem dX7_begins_53 : decode cX7_begins 53 = .ok (.ifCond .eq 4, 3) := by decide +kernel
theorem dX7_begins_56 : decode cX7_begins 56 = .ok (.return_, 1) := by decide +kernel
theorem dX7_begins_57 : decode cX7_begins 57 = .ok (.aload_n 0, 1) := by decide +kernel
theorem dX7_begins_58 : decode cX7_begins 58 = .ok (.getfield 145, 3) := by decide +kernel
theorem dX7_begins_61 : decode cX7_begins 61 = .ok (.aload_n 0, 1) := by decide +kernel
theorem dX7_begins_62 : decode cX7_begins 62 = .ok (.getfield 264, 3) := by decide +kernel
theorem dX7_begins_65 : decode cX7_begins 65 = .ok (.aload_n 0, 1) := by decide +kernel
theorem dX7_begins_66 : decode cX7_begins 66 = .ok (.getfield 90, 3) := by decide +kernel
theorem dX7_begins_69 : decode cX7_begins 69 = .ok (.iload_n 1, 1) := by decide +kernel
theorem dX7_begins_70 : decode cX7_begins 70 = .ok (.iaload, 1) := by decide +kernel
theorem dX7_begins_71 : decode cX7_begins 71 = .ok (.iastore, 1) := by decide +kernel
theorem dX7_begins_72 : decode cX7_begins 72 = .ok (.aload_n 0, 1) := by decide +kernel
theorem dX7_begins_73 : decode cX7_begins 73 = .ok (.dup, 1) := by decide +kernel
theorem dX7_begins_74 : decode cX7_begins 74 = .ok (.getfield 264, 3) := by decide +kernel
theorem dX7_begins_77 : decode cX7_begins 77 = .ok (.iconst 1, 1) := by decide +kernel
theorem dX7_begins_78 : decode cX7_begins 78 = .ok (.iadd, 1) := by decide +kernel
theorem dX7_begins_79 : decode cX7_begins 79 = .ok (.putfield 264, 3) := by decide +kernel
theorem dX7_begins_82 : decode cX7_begins 82 = .ok (.aload_n 0, 1) := by decide +kernel
theorem dX7_begins_83 : decode cX7_begins 83 = .ok (.dup, 1) := by decide +kernel
theorem dX7_begins_84 : decode cX7_begins 84 = .ok (.getfield 267, 3) := by decide +kernel
theorem dX7_begins_87 : decode cX7_begins 87 = .ok (.iconst 1, 1) := by decide +kernel
theorem dX7_begins_88 : decode cX7_begins 88 = .ok (.iadd, 1) := by decide +kernel
theorem dX7_begins_89 : decode cX7_begins 89 = .ok (.putfield 267, 3) := by decide +kernel
theorem dX7_begins_92 : decode cX7_begins 92 = .ok (.return_, 1) := by decide +kernel
theorem dX7_nextRead_0 : decode cX7_nextRead 0 = .ok (.aload_n 0, 1) := by decide +kernel
theorem dX7_nextRead_1 : decode cX7_nextRead 1 = .ok (.getfield 90, 3) := by decide +kernel
theorem dX7_nextRead_4 : decode cX7_nextRead 4 = .ok (.iload_n 1, 1) := by decide +kernel
theorem dX7_nextRead_5 : decode cX7_nextRead 5 = .ok (.iaload, 1) := by decide +kernel
theorem dX7_nextRead_6 : decode cX7_nextRead 6 = .ok (.istore_n 2, 1) := by decide +kernel
theorem dX7_nextRead_7 : decode cX7_nextRead 7 = .ok (.aload_n 0, 1) := by decide +kernel
theorem dX7_nextRead_8 : decode cX7_nextRead 8 = .ok (.getfield 96, 3) := by decide +kernel
theorem dX7_nextRead_11 : decode cX7_nextRead 11 = .ok (.iload_n 1, 1) := by decide +kernel
theorem dX7_nextRead_12 : decode cX7_nextRead 12 = .ok (.iaload, 1) := by decide +kernel
theorem dX7_nextRead_13 : decode cX7_nextRead 13 = .ok (.istore_n 3, 1) := by decide +kernel
theorem dX7_nextRead_14 : decode cX7_nextRead 14 = .ok (.aload_n 0, 1) := by decide +kernel
theorem dX7_nextRead_15 : decode cX7_nextRead 15 = .ok (.getfield 132, 3) := by decide +kernel
theorem dX7_nextRead_18 : decode cX7_nextRead 18 = .ok (.iload_n 1, 1) := by decide +kernel
theorem dX7_nextRead_19 : decode cX7_nextRead 19 = .ok (.baload, 1) := by decide +kernel
theorem dX7_nextRead_20 : decode cX7_nextRead 20 = .ok (.ifCond .eq 5, 3) := by decide +kernel
theorem dX7_nextRead_23 : decode cX7_nextRead 23 = .ok (.iconst (-1), 1) := by decide +kernel
theorem dX7_nextRead_24 : decode cX7_nextRead 24 = .ok (.ireturn, 1) := by decide +kernel
theorem dX7_nextRead_25 : decode cX7_nextRead 25 = .ok (.aload_n 0, 1) := by decide +kernel
theorem dX7_nextRead_26 : decode cX7_nextRead 26 = .ok (.getfield 16, 3) := by decide +kernel
theorem dX7_nextRead_29 : decode cX7_nextRead 29 = .ok (.iload_n 2, 1) := by decide +kernel
theorem dX7_nextRead_30 : decode cX7_nextRead 30 = .ok (.iaload, 1) := by decide +kernel
theorem dX7_nextRead_31 : decode cX7_nextRead 31 = .ok (.iconst 5, 1) := by decide +kernel
theorem dX7_nextRead_32 : decode cX7_nextRead 32 = .ok (.if_icmp .ge 29, 3) := by decide +kernel
theorem dX7_nextRead_35 : decode cX7_nextRead 35 = .ok (.iload_n 3, 1) := by decide +kernel
theorem dX7_nextRead_36 : decode cX7_nextRead 36 = .ok (.aload_n 0, 1) := by decide +kernel
theorem dX7_nextRead_37 : decode cX7_nextRead 37 = .ok (.getfield 19, 3) := by decide +kernel
theorem dX7_nextRead_40 : decode cX7_nextRead 40 = .ok (.iload_n 2, 1) := by decide +kernel
theorem dX7_nextRead_41 : decode cX7_nextRead 41 = .ok (.iaload, 1) := by decide +kernel
theorem dX7_nextRead_42 : decode cX7_nextRead 42 = .ok (.if_icmp .ge 17, 3) := by decide +kernel
theorem dX7_nextRead_45 : decode cX7_nextRead 45 = .ok (.aload_n 0, 1) := by decide +kernel
theorem dX7_nextRead_46 : decode cX7_nextRead 46 = .ok (.getfield 22, 3) := by decide +kernel
theorem dX7_nextRead_49 : decode cX7_nextRead 49 = .ok (.bipush 6, 2) := by decide +kernel
theorem dX7_nextRead_51 : decode cX7_nextRead 51 = .ok (.iload_n 2, 1) := by decide +kernel
theorem dX7_nextRead_52 : decode cX7_nextRead 52 = .ok (.imul, 1) := by decide +kernel
theorem dX7_nextRead_53 : decode cX7_nextRead 53 = .ok (.iload_n 3, 1) := by decide +kernel
theorem dX7_nextRead_54 : decode cX7_nextRead 54 = .ok (.iadd, 1) := by decide +kernel
theorem dX7_nextRead_55 : decode cX7_nextRead 55 = .ok (.iaload, 1) := by decide +kernel
theorem dX7_nextRead_56 : decode cX7_nextRead 56 = .ok (.goto 4, 3) := by decide +kernel
theorem dX7_nextRead_59 : decode cX7_nextRead 59 = .ok (.iconst (-1), 1) := by decide +kernel
theorem dX7_nextRead_60 : decode cX7_nextRead 60 = .ok (.ireturn, 1) := by decide +kernel
theorem dX7_nextRead_61 : decode cX7_nextRead 61 = .ok (.iload_n 3, 1) := by decide +kernel
theorem dX7_nextRead_62 : decode cX7_nextRead 62 = .ok (.ifCond .ne 26, 3) := by decide +kernel
theorem dX7_nextRead_65 : decode cX7_nextRead 65 = .ok (.aload_n 0, 1) := by decide +kernel
theorem dX7_nextRead_66 : decode cX7_nextRead 66 = .ok (.getfield 19, 3) := by decide +kernel
theorem dX7_nextRead_69 : decode cX7_nextRead 69 = .ok (.iload_n 2, 1) := by decide +kernel
theorem dX7_nextRead_70 : decode cX7_nextRead 70 = .ok (.iaload, 1) := by decide +kernel
theorem dX7_nextRead_71 : decode cX7_nextRead 71 = .ok (.ifCond .le 15, 3) := by decide +kernel
theorem dX7_nextRead_74 : decode cX7_nextRead 74 = .ok (.aload_n 0, 1) := by decide +kernel
theorem dX7_nextRead_75 : decode cX7_nextRead 75 = .ok (.getfield 22, 3) := by decide +kernel
theorem dX7_nextRead_78 : decode cX7_nextRead 78 = .ok (.bipush 6, 2) := by decide +kernel
theorem dX7_nextRead_80 : decode cX7_nextRead 80 = .ok (.iload_n 2, 1) := by decide +kernel
theorem dX7_nextRead_81 : decode cX7_nextRead 81 = .ok (.imul, 1) := by decide +kernel
theorem dX7_nextRead_82 : decode cX7_nextRead 82 = .ok (.iaload, 1) := by decide +kernel
theorem dX7_nextRead_83 : decode cX7_nextRead 83 = .ok (.goto 4, 3) := by decide +kernel
theorem dX7_nextRead_86 : decode cX7_nextRead 86 = .ok (.iconst (-1), 1) := by decide +kernel
theorem dX7_nextRead_87 : decode cX7_nextRead 87 = .ok (.ireturn, 1) := by decide +kernel
theorem dX7_nextRead_88 : decode cX7_nextRead 88 = .ok (.aload_n 0, 1) := by decide +kernel
theorem dX7_nextRead_89 : decode cX7_nextRead 89 = .ok (.getfield 105, 3) := by decide +kernel
theorem dX7_nextRead_92 : decode cX7_nextRead 92 = .ok (.bipush 25, 2) := by decide +kernel
theorem dX7_nextRead_94 : decode cX7_nextRead 94 = .ok (.iload_n 1, 1) := by decide +kernel
theorem dX7_nextRead_95 : decode cX7_nextRead 95 = .ok (.imul, 1) := by decide +kernel
theorem dX7_nextRead_96 : decode cX7_nextRead 96 = .ok (.iaload, 1) := by decide +kernel
theorem dX7_nextRead_97 : decode cX7_nextRead 97 = .ok (.istore 4, 2) := by decide +kernel
theorem dX7_nextRead_99 : decode cX7_nextRead 99 = .ok (.aload_n 0, 1) := by decide +kernel
theorem dX7_nextRead_100 : decode cX7_nextRead 100 = .ok (.getfield 16, 3) := by decide +kernel
theorem dX7_nextRead_103 : decode cX7_nextRead 103 = .ok (.iload_n 2, 1) := by decide +kernel
theorem dX7_nextRead_104 : decode cX7_nextRead 104 = .ok (.iaload, 1) := by decide +kernel
theorem dX7_nextRead_105 : decode cX7_nextRead 105 = .ok (.iconst 5, 1) := by decide +kernel
theorem dX7_nextRead_106 : decode cX7_nextRead 106 = .ok (.if_icmp .ne 12, 3) := by decide +kernel
theorem dX7_nextRead_109 : decode cX7_nextRead 109 = .ok (.iload 4, 2) := by decide +kernel
theorem dX7_nextRead_111 : decode cX7_nextRead 111 = .ok (.iconst 1, 1) := by decide +kernel
theorem dX7_nextRead_112 : decode cX7_nextRead 112 = .ok (.if_icmp .le 6, 3) := by decide +kernel
theorem dX7_nextRead_115 : decode cX7_nextRead 115 = .ok (.iconst 1, 1) := by decide +kernel
theorem dX7_nextRead_116 : decode cX7_nextRead 116 = .ok (.istore 4, 2) := by decide +kernel
theorem dX7_nextRead_118 : decode cX7_nextRead 118 = .ok (.aload_n 0, 1) := by decide +kernel
theorem dX7_nextRead_119 : decode cX7_nextRead 119 = .ok (.getfield 19, 3) := by decide +kernel
theorem dX7_nextRead_122 : decode cX7_nextRead 122 = .ok (.iload_n 2, 1) := by decide +kernel
theorem dX7_nextRead_123 : decode cX7_nextRead 123 = .ok (.iaload, 1) := by decide +kernel
theorem dX7_nextRead_124 : decode cX7_nextRead 124 = .ok (.iconst 1, 1) := by decide +kernel
theorem dX7_nextRead_125 : decode cX7_nextRead 125 = .ok (.isub, 1) := by decide +kernel
theorem dX7_nextRead_126 : decode cX7_nextRead 126 = .ok (.istore 5, 2) := by decide +kernel
theorem dX7_nextRead_128 : decode cX7_nextRead 128 = .ok (.iload 5, 2) := by decide +kernel
theorem dX7_nextRead_130 : decode cX7_nextRead 130 = .ok (.ifCond .eq 9, 3) := by decide +kernel
theorem dX7_nextRead_133 : decode cX7_nextRead 133 = .ok (.iload_n 3, 1) := by decide +kernel
theorem dX7_nextRead_134 : decode cX7_nextRead 134 = .ok (.iload 4, 2) := by decide +kernel
theorem dX7_nextRead_136 : decode cX7_nextRead 136 = .ok (.if_icmp .le 5, 3) := by decide +kernel
theorem dX7_nextRead_139 : decode cX7_nextRead 139 = .ok (.iconst (-1), 1) := by decide +kernel
theorem dX7_nextRead_140 : decode cX7_nextRead 140 = .ok (.ireturn, 1) := by decide +kernel
theorem dX7_nextRead_141 : decode cX7_nextRead 141 = .ok (.aload_n 0, 1) := by decide +kernel
theorem dX7_nextRead_142 : decode cX7_nextRead 142 = .ok (.getfield 114, 3) := by decide +kernel
theorem dX7_nextRead_145 : decode cX7_nextRead 145 = .ok (.bipush 24, 2) := by decide +kernel
theorem dX7_nextRead_147 : decode cX7_nextRead 147 = .ok (.bipush 25, 2) := by decide +kernel
theorem dX7_nextRead_149 : decode cX7_nextRead 149 = .ok (.iload_n 1, 1) := by decide +kernel
theorem dX7_nextRead_150 : decode cX7_nextRead 150 = .ok (.imul, 1) := by decide +kernel
theorem dX7_nextRead_151 : decode cX7_nextRead 151 = .ok (.imul, 1) := by decide +kernel
theorem dX7_nextRead_152 : decode cX7_nextRead 152 = .ok (.iload_n 3, 1) := by decide +kernel
theorem dX7_nextRead_153 : decode cX7_nextRead 153 = .ok (.iadd, 1) := by decide +kernel
theorem dX7_nextRead_154 : decode cX7_nextRead 154 = .ok (.iconst 1, 1) := by decide +kernel
theorem dX7_nextRead_155 : decode cX7_nextRead 155 = .ok (.isub, 1) := by decide +kernel
theorem dX7_nextRead_156 : decode cX7_nextRead 156 = .ok (.iaload, 1) := by decide +kernel
theorem dX7_nextRead_157 : decode cX7_nextRead 157 = .ok (.iload 5, 2) := by decide +kernel
theorem dX7_nextRead_159 : decode cX7_nextRead 159 = .ok (.irem, 1) := by decide +kernel
theorem dX7_nextRead_160 : decode cX7_nextRead 160 = .ok (.istore 6, 2) := by decide +kernel
theorem dX7_nextRead_162 : decode cX7_nextRead 162 = .ok (.aload_n 0, 1) := by decide +kernel
theorem dX7_nextRead_163 : decode cX7_nextRead 163 = .ok (.getfield 22, 3) := by decide +kernel
theorem dX7_nextRead_166 : decode cX7_nextRead 166 = .ok (.bipush 6, 2) := by decide +kernel
theorem dX7_nextRead_168 : decode cX7_nextRead 168 = .ok (.iload_n 2, 1) := by decide +kernel
theorem dX7_nextRead_169 : decode cX7_nextRead 169 = .ok (.imul, 1) := by decide +kernel
theorem dX7_nextRead_170 : decode cX7_nextRead 170 = .ok (.iconst 1, 1) := by decide +kernel
theorem dX7_nextRead_171 : decode cX7_nextRead 171 = .ok (.iadd, 1) := by decide +kernel
theorem dX7_nextRead_172 : decode cX7_nextRead 172 = .ok (.iload 6, 2) := by decide +kernel
theorem dX7_nextRead_174 : decode cX7_nextRead 174 = .ok (.ifCond .ge 11, 3) := by decide +kernel
theorem dX7_nextRead_177 : decode cX7_nextRead 177 = .ok (.iload 6, 2) := by decide +kernel
theorem dX7_nextRead_179 : decode cX7_nextRead 179 = .ok (.iload 5, 2) := by decide +kernel
theorem dX7_nextRead_181 : decode cX7_nextRead 181 = .ok (.iadd, 1) := by decide +kernel
theorem dX7_nextRead_182 : decode cX7_nextRead 182 = .ok (.goto 5, 3) := by decide +kernel
theorem dX7_nextRead_185 : decode cX7_nextRead 185 = .ok (.iload 6, 2) := by decide +kernel
theorem dX7_nextRead_187 : decode cX7_nextRead 187 = .ok (.iadd, 1) := by decide +kernel
theorem dX7_nextRead_188 : decode cX7_nextRead 188 = .ok (.iaload, 1) := by decide +kernel
theorem dX7_nextRead_189 : decode cX7_nextRead 189 = .ok (.ireturn, 1) := by decide +kernel
theorem dX7_takes_0 : decode cX7_takes 0 = .ok (.aload_n 0, 1) := by decide +kernel
theorem dX7_takes_1 : decode cX7_takes 1 = .ok (.getfield 90, 3) := by decide +kernel
theorem dX7_takes_4 : decode cX7_takes 4 = .ok (.iload_n 1, 1) := by decide +kernel
theorem dX7_takes_5 : decode cX7_takes 5 = .ok (.iaload, 1) := by decide +kernel
theorem dX7_takes_6 : decode cX7_takes 6 = .ok (.istore_n 3, 1) := by decide +kernel
theorem dX7_takes_7 : decode cX7_takes 7 = .ok (.aload_n 0, 1) := by decide +kernel
theorem dX7_takes_8 : decode cX7_takes 8 = .ok (.getfield 96, 3) := by decide +kernel
theorem dX7_takes_11 : decode cX7_takes 11 = .ok (.iload_n 1, 1) := by decide +kernel
theorem dX7_takes_12 : decode cX7_takes 12 = .ok (.iaload, 1) := by decide +kernel
theorem dX7_takes_13 : decode cX7_takes 13 = .ok (.istore 4, 2) := by decide +kernel
theorem dX7_takes_15 : decode cX7_takes 15 = .ok (.bipush 25, 2) := by decide +kernel
theorem dX7_takes_17 : decode cX7_takes 17 = .ok (.iload_n 1, 1) := by decide +kernel
theorem dX7_takes_18 : decode cX7_takes 18 = .ok (.imul, 1) := by decide +kernel
theorem dX7_takes_19 : decode cX7_takes 19 = .ok (.iload 4, 2) := by decide +kernel
theorem dX7_takes_21 : decode cX7_takes 21 = .ok (.iadd, 1) := by decide +kernel
theorem dX7_takes_22 : decode cX7_takes 22 = .ok (.istore 5, 2) := by decide +kernel
theorem dX7_takes_24 : decode cX7_takes 24 = .ok (.aload_n 0, 1) := by decide +kernel
theorem dX7_takes_25 : decode cX7_takes 25 = .ok (.getfield 102, 3) := by decide +kernel
theorem dX7_takes_28 : decode cX7_takes 28 = .ok (.iload 5, 2) := by decide +kernel
theorem dX7_takes_30 : decode cX7_takes 30 = .ok (.iload_n 2, 1) := by decide +kernel
theorem dX7_takes_31 : decode cX7_takes 31 = .ok (.iastore, 1) := by decide +kernel
theorem dX7_takes_32 : decode cX7_takes 32 = .ok (.aload_n 0, 1) := by decide +kernel
theorem dX7_takes_33 : decode cX7_takes 33 = .ok (.getfield 105, 3) := by decide +kernel
theorem dX7_takes_36 : decode cX7_takes 36 = .ok (.iload 5, 2) := by decide +kernel
theorem dX7_takes_38 : decode cX7_takes 38 = .ok (.aload_n 0, 1) := by decide +kernel
theorem dX7_takes_39 : decode cX7_takes 39 = .ok (.getfield 178, 3) := by decide +kernel
theorem dX7_takes_42 : decode cX7_takes 42 = .ok (.iastore, 1) := by decide +kernel
theorem dX7_takes_43 : decode cX7_takes 43 = .ok (.aload_n 0, 1) := by decide +kernel
theorem dX7_takes_44 : decode cX7_takes 44 = .ok (.getfield 108, 3) := by decide +kernel
theorem dX7_takes_47 : decode cX7_takes 47 = .ok (.iload 5, 2) := by decide +kernel
theorem dX7_takes_49 : decode cX7_takes 49 = .ok (.aload_n 0, 1) := by decide +kernel
theorem dX7_takes_50 : decode cX7_takes 50 = .ok (.getfield 181, 3) := by decide +kernel
theorem dX7_takes_53 : decode cX7_takes 53 = .ok (.iastore, 1) := by decide +kernel
theorem dX7_takes_54 : decode cX7_takes 54 = .ok (.aload_n 0, 1) := by decide +kernel
theorem dX7_takes_55 : decode cX7_takes 55 = .ok (.getfield 111, 3) := by decide +kernel
theorem dX7_takes_58 : decode cX7_takes 58 = .ok (.iload 5, 2) := by decide +kernel
theorem dX7_takes_60 : decode cX7_takes 60 = .ok (.aload_n 0, 1) := by decide +kernel
theorem dX7_takes_61 : decode cX7_takes 61 = .ok (.getfield 184, 3) := by decide +kernel
theorem dX7_takes_64 : decode cX7_takes 64 = .ok (.iastore, 1) := by decide +kernel
theorem dX7_takes_65 : decode cX7_takes 65 = .ok (.iconst 0, 1) := by decide +kernel
theorem dX7_takes_66 : decode cX7_takes 66 = .ok (.istore 6, 2) := by decide +kernel
theorem dX7_takes_68 : decode cX7_takes 68 = .ok (.iload 6, 2) := by decide +kernel
theorem dX7_takes_70 : decode cX7_takes 70 = .ok (.aload_n 0, 1) := by decide +kernel
theorem dX7_takes_71 : decode cX7_takes 71 = .ok (.getfield 178, 3) := by decide +kernel
theorem dX7_takes_74 : decode cX7_takes 74 = .ok (.if_icmp .ge 29, 3) := by decide +kernel
theorem dX7_takes_77 : decode cX7_takes 77 = .ok (.aload_n 0, 1) := by decide +kernel
theorem dX7_takes_78 : decode cX7_takes 78 = .ok (.getfield 114, 3) := by decide +kernel
theorem dX7_takes_81 : decode cX7_takes 81 = .ok (.bipush 24, 2) := by decide +kernel
theorem dX7_takes_83 : decode cX7_takes 83 = .ok (.iload 5, 2) := by decide +kernel
theorem dX7_takes_85 : decode cX7_takes 85 = .ok (.imul, 1) := by decide +kernel
theorem dX7_takes_86 : decode cX7_takes 86 = .ok (.iload 6, 2) := by decide +kernel
theorem dX7_takes_88 : decode cX7_takes 88 = .ok (.iadd, 1) := by decide +kernel
theorem dX7_takes_89 : decode cX7_takes 89 = .ok (.aload_n 0, 1) := by decide +kernel
theorem dX7_takes_90 : decode cX7_takes 90 = .ok (.getfield 135, 3) := by decide +kernel
theorem dX7_takes_93 : decode cX7_takes 93 = .ok (.iload 6, 2) := by decide +kernel
theorem dX7_takes_95 : decode cX7_takes 95 = .ok (.iaload, 1) := by decide +kernel
theorem dX7_takes_96 : decode cX7_takes 96 = .ok (.iastore, 1) := by decide +kernel
theorem dX7_takes_97 : decode cX7_takes 97 = .ok (.iinc 6 1, 3) := by decide +kernel
theorem dX7_takes_100 : decode cX7_takes 100 = .ok (.goto (-32), 3) := by decide +kernel
theorem dX7_takes_103 : decode cX7_takes 103 = .ok (.aload_n 0, 1) := by decide +kernel
theorem dX7_takes_104 : decode cX7_takes 104 = .ok (.getfield 96, 3) := by decide +kernel
theorem dX7_takes_107 : decode cX7_takes 107 = .ok (.iload_n 1, 1) := by decide +kernel
theorem dX7_takes_108 : decode cX7_takes 108 = .ok (.dup2, 1) := by decide +kernel
theorem dX7_takes_109 : decode cX7_takes 109 = .ok (.iaload, 1) := by decide +kernel
theorem dX7_takes_110 : decode cX7_takes 110 = .ok (.iconst 1, 1) := by decide +kernel
theorem dX7_takes_111 : decode cX7_takes 111 = .ok (.iadd, 1) := by decide +kernel
theorem dX7_takes_112 : decode cX7_takes 112 = .ok (.iastore, 1) := by decide +kernel
theorem dX7_takes_113 : decode cX7_takes 113 = .ok (.aload_n 0, 1) := by decide +kernel
theorem dX7_takes_114 : decode cX7_takes 114 = .ok (.getfield 181, 3) := by decide +kernel
theorem dX7_takes_117 : decode cX7_takes 117 = .ok (.ifCond .eq 28, 3) := by decide +kernel
theorem dX7_takes_120 : decode cX7_takes 120 = .ok (.aload_n 0, 1) := by decide +kernel
theorem dX7_takes_121 : decode cX7_takes 121 = .ok (.getfield 25, 3) := by decide +kernel
theorem dX7_takes_124 : decode cX7_takes 124 = .ok (.iload_n 3, 1) := by decide +kernel
theorem dX7_takes_125 : decode cX7_takes 125 = .ok (.baload, 1) := by decide +kernel
theorem dX7_takes_126 : decode cX7_takes 126 = .ok (.ifCond .eq 19, 3) := by decide +kernel
theorem dX7_takes_129 : decode cX7_takes 129 = .ok (.aload_n 0, 1) := by decide +kernel
theorem dX7_takes_130 : decode cX7_takes 130 = .ok (.iload_n 1, 1) := by decide +kernel
theorem dX7_takes_131 : decode cX7_takes 131 = .ok (.aload_n 0, 1) := by decide +kernel
theorem dX7_takes_132 : decode cX7_takes 132 = .ok (.getfield 181, 3) := by decide +kernel
theorem dX7_takes_135 : decode cX7_takes 135 = .ok (.aload_n 0, 1) := by decide +kernel
theorem dX7_takes_136 : decode cX7_takes 136 = .ok (.getfield 184, 3) := by decide +kernel
theorem dX7_takes_139 : decode cX7_takes 139 = .ok (.invokevirtual 270, 3) := by decide +kernel
theorem dX7_takes_142 : decode cX7_takes 142 = .ok (.goto 94, 3) := by decide +kernel
theorem dX7_takes_145 : decode cX7_takes 145 = .ok (.aload_n 0, 1) := by decide +kernel
theorem dX7_takes_146 : decode cX7_takes 146 = .ok (.getfield 16, 3) := by decide +kernel
theorem dX7_takes_149 : decode cX7_takes 149 = .ok (.iload_n 3, 1) := by decide +kernel
theorem dX7_takes_150 : decode cX7_takes 150 = .ok (.iaload, 1) := by decide +kernel
theorem dX7_takes_151 : decode cX7_takes 151 = .ok (.iconst 2, 1) := by decide +kernel
theorem dX7_takes_152 : decode cX7_takes 152 = .ok (.if_icmp .ne 40, 3) := by decide +kernel
theorem dX7_takes_155 : decode cX7_takes 155 = .ok (.iconst 0, 1) := by decide +kernel
theorem dX7_takes_156 : decode cX7_takes 156 = .ok (.istore 6, 2) := by decide +kernel
theorem dX7_takes_158 : decode cX7_takes 158 = .ok (.iload 6, 2) := by decide +kernel
theorem dX7_takes_160 : decode cX7_takes 160 = .ok (.aload_n 0, 1) := by decide +kernel
theorem dX7_takes_161 : decode cX7_takes 161 = .ok (.getfield 178, 3) := by decide +kernel
theorem dX7_takes_164 : decode cX7_takes 164 = .ok (.if_icmp .ge 25, 3) := by decide +kernel
theorem dX7_takes_167 : decode cX7_takes 167 = .ok (.aload_n 0, 1) := by decide +kernel
theorem dX7_takes_168 : decode cX7_takes 168 = .ok (.getfield 123, 3) := by decide +kernel
theorem dX7_takes_171 : decode cX7_takes 171 = .ok (.iload_n 1, 1) := by decide +kernel
theorem dX7_takes_172 : decode cX7_takes 172 = .ok (.dup2, 1) := by decide +kernel
theorem dX7_takes_173 : decode cX7_takes 173 = .ok (.iaload, 1) := by decide +kernel
theorem dX7_takes_174 : decode cX7_takes 174 = .ok (.aload_n 0, 1) := by decide +kernel
theorem dX7_takes_175 : decode cX7_takes 175 = .ok (.getfield 135, 3) := by decide +kernel
theorem dX7_takes_178 : decode cX7_takes 178 = .ok (.iload 6, 2) := by decide +kernel
theorem dX7_takes_180 : decode cX7_takes 180 = .ok (.iaload, 1) := by decide +kernel
theorem dX7_takes_181 : decode cX7_takes 181 = .ok (.iadd, 1) := by decide +kernel
theorem dX7_takes_182 : decode cX7_takes 182 = .ok (.iastore, 1) := by decide +kernel
theorem dX7_takes_183 : decode cX7_takes 183 = .ok (.iinc 6 1, 3) := by decide +kernel
theorem dX7_takes_186 : decode cX7_takes 186 = .ok (.goto (-28), 3) := by decide +kernel
theorem dX7_takes_189 : decode cX7_takes 189 = .ok (.goto 47, 3) := by decide +kernel
theorem dX7_takes_192 : decode cX7_takes 192 = .ok (.aload_n 0, 1) := by decide +kernel
theorem dX7_takes_193 : decode cX7_takes 193 = .ok (.getfield 16, 3) := by decide +kernel
theorem dX7_takes_196 : decode cX7_takes 196 = .ok (.iload_n 3, 1) := by decide +kernel
theorem dX7_takes_197 : decode cX7_takes 197 = .ok (.iaload, 1) := by decide +kernel
theorem dX7_takes_198 : decode cX7_takes 198 = .ok (.iconst 5, 1) := by decide +kernel
theorem dX7_takes_199 : decode cX7_takes 199 = .ok (.if_icmp .lt 8, 3) := by decide +kernel
theorem dX7_takes_202 : decode cX7_takes 202 = .ok (.iload 4, 2) := by decide +kernel
theorem dX7_takes_204 : decode cX7_takes 204 = .ok (.ifCond .le 32, 3) := by decide +kernel
theorem dX7_takes_207 : decode cX7_takes 207 = .ok (.aload_n 0, 1) := by decide +kernel
theorem dX7_takes_208 : decode cX7_takes 208 = .ok (.getfield 16, 3) := by decide +kernel
theorem dX7_takes_211 : decode cX7_takes 211 = .ok (.iload_n 3, 1) := by decide +kernel
theorem dX7_takes_212 : decode cX7_takes 212 = .ok (.iaload, 1) := by decide +kernel
theorem dX7_takes_213 : decode cX7_takes 213 = .ok (.iconst 4, 1) := by decide +kernel
theorem dX7_takes_214 : decode cX7_takes 214 = .ok (.if_icmp .ne 17, 3) := by decide +kernel
theorem dX7_takes_217 : decode cX7_takes 217 = .ok (.aload_n 0, 1) := by decide +kernel
theorem dX7_takes_218 : decode cX7_takes 218 = .ok (.getfield 178, 3) := by decide +kernel
theorem dX7_takes_221 : decode cX7_takes 221 = .ok (.ifCond .le 10, 3) := by decide +kernel
theorem dX7_takes_224 : decode cX7_takes 224 = .ok (.aload_n 0, 1) := by decide +kernel
theorem dX7_takes_225 : decode cX7_takes 225 = .ok (.getfield 132, 3) := by decide +kernel
theorem dX7_takes_228 : decode cX7_takes 228 = .ok (.iload_n 1, 1) := by decide +kernel
theorem dX7_takes_229 : decode cX7_takes 229 = .ok (.iconst 1, 1) := by decide +kernel
theorem dX7_takes_230 : decode cX7_takes 230 = .ok (.bastore, 1) := by decide +kernel
theorem dX7_takes_231 : decode cX7_takes 231 = .ok (.aload_n 0, 1) := by decide +kernel
theorem dX7_takes_232 : decode cX7_takes 232 = .ok (.iload_n 1, 1) := by decide +kernel
theorem dX7_takes_233 : decode cX7_takes 233 = .ok (.invokevirtual 273, 3) := by decide +kernel
theorem dX7_takes_236 : decode cX7_takes 236 = .ok (.return_, 1) := by decide +kernel
theorem dX7_endsWith_0 : decode cX7_endsWith 0 = .ok (.aload_n 0, 1) := by decide +kernel
theorem dX7_endsWith_1 : decode cX7_endsWith 1 = .ok (.getfield 132, 3) := by decide +kernel
theorem dX7_endsWith_4 : decode cX7_endsWith 4 = .ok (.iload_n 1, 1) := by decide +kernel
theorem dX7_endsWith_5 : decode cX7_endsWith 5 = .ok (.iconst 1, 1) := by decide +kernel
theorem dX7_endsWith_6 : decode cX7_endsWith 6 = .ok (.bastore, 1) := by decide +kernel
theorem dX7_endsWith_7 : decode cX7_endsWith 7 = .ok (.aload_n 0, 1) := by decide +kernel
theorem dX7_endsWith_8 : decode cX7_endsWith 8 = .ok (.getfield 126, 3) := by decide +kernel
theorem dX7_endsWith_11 : decode cX7_endsWith 11 = .ok (.iload_n 1, 1) := by decide +kernel
theorem dX7_endsWith_12 : decode cX7_endsWith 12 = .ok (.iload_n 2, 1) := by decide +kernel
theorem dX7_endsWith_13 : decode cX7_endsWith 13 = .ok (.iastore, 1) := by decide +kernel
theorem dX7_endsWith_14 : decode cX7_endsWith 14 = .ok (.aload_n 0, 1) := by decide +kernel
theorem dX7_endsWith_15 : decode cX7_endsWith 15 = .ok (.getfield 129, 3) := by decide +kernel
theorem dX7_endsWith_18 : decode cX7_endsWith 18 = .ok (.iload_n 1, 1) := by decide +kernel
theorem dX7_endsWith_19 : decode cX7_endsWith 19 = .ok (.iload_n 3, 1) := by decide +kernel
theorem dX7_endsWith_20 : decode cX7_endsWith 20 = .ok (.iastore, 1) := by decide +kernel
theorem dX7_endsWith_21 : decode cX7_endsWith 21 = .ok (.return_, 1) := by decide +kernel
theorem dX7_appends_0 : decode cX7_appends 0 = .ok (.aload_n 0, 1) := by decide +kernel
theorem dX7_appends_1 : decode cX7_appends 1 = .ok (.getfield 117, 3) := by decide +kernel
theorem dX7_appends_4 : decode cX7_appends 4 = .ok (.iload_n 1, 1) := by decide +kernel
