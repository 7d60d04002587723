theorem dX6_init_0 : decode cX6_init 0 = .ok (.aload_n 0, 1) := by decide +kernel
theorem dX6_init_1 : decode cX6_init 1 = .ok (.invokespecial 3, 3) := by decide +kernel
theorem dX6_init_4 : decode cX6_init 4 = .ok (.aload_n 0, 1) := by decide +kernel
theorem dX6_init_5 : decode cX6_init 5 = .ok (.new 9, 3) := by decide +kernel
theorem dX6_init_8 : decode cX6_init 8 = .ok (.dup, 1) := by decide +kernel
theorem dX6_init_9 : decode cX6_init 9 = .ok (.invokespecial 11, 3) := by decide +kernel
theorem dX6_init_12 : decode cX6_init 12 = .ok (.putfield 12, 3) := by decide +kernel
theorem dX6_init_15 : decode cX6_init 15 = .ok (.aload_n 0, 1) := by decide +kernel
theorem dX6_init_16 : decode cX6_init 16 = .ok (.new 16, 3) := by decide +kernel
theorem dX6_init_19 : decode cX6_init 19 = .ok (.dup, 1) := by decide +kernel
theorem dX6_init_20 : decode cX6_init 20 = .ok (.invokespecial 18, 3) := by decide +kernel
theorem dX6_init_23 : decode cX6_init 23 = .ok (.putfield 19, 3) := by decide +kernel
theorem dX6_init_26 : decode cX6_init 26 = .ok (.aload_n 0, 1) := by decide +kernel
theorem dX6_init_27 : decode cX6_init 27 = .ok (.aload_n 0, 1) := by decide +kernel
theorem dX6_init_28 : decode cX6_init 28 = .ok (.getfield 19, 3) := by decide +kernel
theorem dX6_init_31 : decode cX6_init 31 = .ok (.getfield 23, 3) := by decide +kernel
theorem dX6_init_34 : decode cX6_init 34 = .ok (.putfield 27, 3) := by decide +kernel
theorem dX6_init_37 : decode cX6_init 37 = .ok (.return_, 1) := by decide +kernel
theorem dX6_source_0 : decode cX6_source 0 = .ok (.aload_n 0, 1) := by decide +kernel
theorem dX6_source_1 : decode cX6_source 1 = .ok (.getfield 27, 3) := by decide +kernel
theorem dX6_source_4 : decode cX6_source 4 = .ok (.iload_n 1, 1) := by decide +kernel
theorem dX6_source_5 : decode cX6_source 5 = .ok (.invokevirtual 28, 3) := by decide +kernel
theorem dX6_source_8 : decode cX6_source 8 = .ok (.ifnonnull 5, 3) := by decide +kernel
theorem dX6_source_11 : decode cX6_source 11 = .ok (.iconst (-1), 1) := by decide +kernel
theorem dX6_source_12 : decode cX6_source 12 = .ok (.ireturn, 1) := by decide +kernel
theorem dX6_source_13 : decode cX6_source 13 = .ok (.iload_n 2, 1) := by decide +kernel
theorem dX6_source_14 : decode cX6_source 14 = .ok (.ifCond .ge 12, 3) := by decide +kernel
theorem dX6_source_17 : decode cX6_source 17 = .ok (.aload_n 0, 1) := by decide +kernel
theorem dX6_source_18 : decode cX6_source 18 = .ok (.getfield 12, 3) := by decide +kernel
theorem dX6_source_21 : decode cX6_source 21 = .ok (.iconst 3, 1) := by decide +kernel
theorem dX6_source_22 : decode cX6_source 22 = .ok (.invokevirtual 34, 3) := by decide +kernel
theorem dX6_source_25 : decode cX6_source 25 = .ok (.ireturn, 1) := by decide +kernel
theorem dX6_source_26 : decode cX6_source 26 = .ok (.iload_n 2, 1) := by decide +kernel
theorem dX6_source_27 : decode cX6_source 27 = .ok (.bipush 16, 2) := by decide +kernel
theorem dX6_source_29 : decode cX6_source 29 = .ok (.if_icmp .le 5, 3) := by decide +kernel
theorem dX6_source_32 : decode cX6_source 32 = .ok (.iconst (-1), 1) := by decide +kernel
theorem dX6_source_33 : decode cX6_source 33 = .ok (.ireturn, 1) := by decide +kernel
theorem dX6_source_34 : decode cX6_source 34 = .ok (.aload_n 0, 1) := by decide +kernel
theorem dX6_source_35 : decode cX6_source 35 = .ok (.getfield 27, 3) := by decide +kernel
theorem dX6_source_38 : decode cX6_source 38 = .ok (.iload_n 1, 1) := by decide +kernel
theorem dX6_source_39 : decode cX6_source 39 = .ok (.iload_n 2, 1) := by decide +kernel
theorem dX6_source_40 : decode cX6_source 40 = .ok (.newarray .int, 2) := by decide +kernel
theorem dX6_source_42 : decode cX6_source 42 = .ok (.invokevirtual 38, 3) := by decide +kernel
theorem dX6_source_45 : decode cX6_source 45 = .ok (.iload_n 2, 1) := by decide +kernel
theorem dX6_source_46 : decode cX6_source 46 = .ok (.ireturn, 1) := by decide +kernel
theorem dX6_set_0 : decode cX6_set 0 = .ok (.aload_n 0, 1) := by decide +kernel
theorem dX6_set_1 : decode cX6_set 1 = .ok (.getfield 27, 3) := by decide +kernel
theorem dX6_set_4 : decode cX6_set 4 = .ok (.iload_n 1, 1) := by decide +kernel
theorem dX6_set_5 : decode cX6_set 5 = .ok (.invokevirtual 28, 3) := by decide +kernel
theorem dX6_set_8 : decode cX6_set 8 = .ok (.astore 4, 2) := by decide +kernel
theorem dX6_set_10 : decode cX6_set 10 = .ok (.aload 4, 2) := by decide +kernel
theorem dX6_set_12 : decode cX6_set 12 = .ok (.ifnonnull 12, 3) := by decide +kernel
theorem dX6_set_15 : decode cX6_set 15 = .ok (.aload_n 0, 1) := by decide +kernel
theorem dX6_set_16 : decode cX6_set 16 = .ok (.getfield 12, 3) := by decide +kernel
theorem dX6_set_19 : decode cX6_set 19 = .ok (.iconst 2, 1) := by decide +kernel
theorem dX6_set_20 : decode cX6_set 20 = .ok (.invokevirtual 34, 3) := by decide +kernel
theorem dX6_set_23 : decode cX6_set 23 = .ok (.ireturn, 1) := by decide +kernel
theorem dX6_set_24 : decode cX6_set 24 = .ok (.aload 4, 2) := by decide +kernel
theorem dX6_set_26 : decode cX6_set 26 = .ok (.invokevirtual 42, 3) := by decide +kernel
theorem dX6_set_29 : decode cX6_set 29 = .ok (.ifCond .eq 12, 3) := by decide +kernel
theorem dX6_set_32 : decode cX6_set 32 = .ok (.aload_n 0, 1) := by decide +kernel
theorem dX6_set_33 : decode cX6_set 33 = .ok (.getfield 12, 3) := by decide +kernel
theorem dX6_set_36 : decode cX6_set 36 = .ok (.iconst 1, 1) := by decide +kernel
theorem dX6_set_37 : decode cX6_set 37 = .ok (.invokevirtual 34, 3) := by decide +kernel
theorem dX6_set_40 : decode cX6_set 40 = .ok (.ireturn, 1) := by decide +kernel
theorem dX6_set_41 : decode cX6_set 41 = .ok (.aload 4, 2) := by decide +kernel
theorem dX6_set_43 : decode cX6_set 43 = .ok (.iload_n 2, 1) := by decide +kernel
theorem dX6_set_44 : decode cX6_set 44 = .ok (.invokevirtual 48, 3) := by decide +kernel
theorem dX6_set_47 : decode cX6_set 47 = .ok (.ifCond .ne 12, 3) := by decide +kernel
theorem dX6_set_50 : decode cX6_set 50 = .ok (.aload_n 0, 1) := by decide +kernel
theorem dX6_set_51 : decode cX6_set 51 = .ok (.getfield 12, 3) := by decide +kernel
theorem dX6_set_54 : decode cX6_set 54 = .ok (.iconst 2, 1) := by decide +kernel
theorem dX6_set_55 : decode cX6_set 55 = .ok (.invokevirtual 34, 3) := by decide +kernel
theorem dX6_set_58 : decode cX6_set 58 = .ok (.ireturn, 1) := by decide +kernel
theorem dX6_set_59 : decode cX6_set 59 = .ok (.aload 4, 2) := by decide +kernel
theorem dX6_set_61 : decode cX6_set 61 = .ok (.getfield 52, 3) := by decide +kernel
theorem dX6_set_64 : decode cX6_set 64 = .ok (.invokevirtual 56, 3) := by decide +kernel
theorem dX6_set_67 : decode cX6_set 67 = .ok (.checkcast 57, 3) := by decide +kernel
theorem dX6_set_70 : decode cX6_set 70 = .ok (.astore 5, 2) := by decide +kernel
theorem dX6_set_72 : decode cX6_set 72 = .ok (.aload 5, 2) := by decide +kernel
theorem dX6_set_74 : decode cX6_set 74 = .ok (.iload_n 2, 1) := by decide +kernel
theorem dX6_set_75 : decode cX6_set 75 = .ok (.iload_n 3, 1) := by decide +kernel
theorem dX6_set_76 : decode cX6_set 76 = .ok (.iastore, 1) := by decide +kernel
theorem dX6_set_77 : decode cX6_set 77 = .ok (.aload_n 0, 1) := by decide +kernel
theorem dX6_set_78 : decode cX6_set 78 = .ok (.getfield 27, 3) := by decide +kernel
theorem dX6_set_81 : decode cX6_set 81 = .ok (.iload_n 1, 1) := by decide +kernel
theorem dX6_set_82 : decode cX6_set 82 = .ok (.aload 5, 2) := by decide +kernel
theorem dX6_set_84 : decode cX6_set 84 = .ok (.invokevirtual 38, 3) := by decide +kernel
theorem dX6_set_87 : decode cX6_set 87 = .ok (.iconst 1, 1) := by decide +kernel
theorem dX6_set_88 : decode cX6_set 88 = .ok (.ireturn, 1) := by decide +kernel
theorem dX6_miss_0 : decode cX6_miss 0 = .ok (.aload_n 0, 1) := by decide +kernel
theorem dX6_miss_1 : decode cX6_miss 1 = .ok (.getfield 27, 3) := by decide +kernel
theorem dX6_miss_4 : decode cX6_miss 4 = .ok (.iload_n 1, 1) := by decide +kernel
theorem dX6_miss_5 : decode cX6_miss 5 = .ok (.invokevirtual 28, 3) := by decide +kernel
theorem dX6_miss_8 : decode cX6_miss 8 = .ok (.astore_n 2, 1) := by decide +kernel
theorem dX6_miss_9 : decode cX6_miss 9 = .ok (.aload_n 2, 1) := by decide +kernel
theorem dX6_miss_10 : decode cX6_miss 10 = .ok (.ifnonnull 5, 3) := by decide +kernel
theorem dX6_miss_13 : decode cX6_miss 13 = .ok (.iconst (-1), 1) := by decide +kernel
theorem dX6_miss_14 : decode cX6_miss 14 = .ok (.ireturn, 1) := by decide +kernel
theorem dX6_miss_15 : decode cX6_miss 15 = .ok (.aload_n 2, 1) := by decide +kernel
theorem dX6_miss_16 : decode cX6_miss 16 = .ok (.invokevirtual 42, 3) := by decide +kernel
theorem dX6_miss_19 : decode cX6_miss 19 = .ok (.ifCond .eq 5, 3) := by decide +kernel
theorem dX6_miss_22 : decode cX6_miss 22 = .ok (.iconst 0, 1) := by decide +kernel
theorem dX6_miss_23 : decode cX6_miss 23 = .ok (.ireturn, 1) := by decide +kernel
theorem dX6_miss_24 : decode cX6_miss 24 = .ok (.aload_n 0, 1) := by decide +kernel
theorem dX6_miss_25 : decode cX6_miss 25 = .ok (.getfield 27, 3) := by decide +kernel
theorem dX6_miss_28 : decode cX6_miss 28 = .ok (.getfield 61, 3) := by decide +kernel
theorem dX6_miss_31 : decode cX6_miss 31 = .ok (.iload_n 1, 1) := by decide +kernel
theorem dX6_miss_32 : decode cX6_miss 32 = .ok (.iconst 1, 1) := by decide +kernel
theorem dX6_miss_33 : decode cX6_miss 33 = .ok (.iload_n 1, 1) := by decide +kernel
theorem dX6_miss_34 : decode cX6_miss 34 = .ok (.invokestatic 65, 3) := by decide +kernel
theorem dX6_miss_37 : decode cX6_miss 37 = .ok (.aastore, 1) := by decide +kernel
theorem dX6_miss_38 : decode cX6_miss 38 = .ok (.iconst 1, 1) := by decide +kernel
theorem dX6_miss_39 : decode cX6_miss 39 = .ok (.ireturn, 1) := by decide +kernel
theorem dX6_copy_0 : decode cX6_copy 0 = .ok (.aload_n 0, 1) := by decide +kernel
theorem dX6_copy_1 : decode cX6_copy 1 = .ok (.getfield 27, 3) := by decide +kernel
theorem dX6_copy_4 : decode cX6_copy 4 = .ok (.iload_n 1, 1) := by decide +kernel
theorem dX6_copy_5 : decode cX6_copy 5 = .ok (.invokevirtual 28, 3) := by decide +kernel
theorem dX6_copy_8 : decode cX6_copy 8 = .ok (.astore 6, 2) := by decide +kernel
theorem dX6_copy_10 : decode cX6_copy 10 = .ok (.aload_n 0, 1) := by decide +kernel
theorem dX6_copy_11 : decode cX6_copy 11 = .ok (.getfield 27, 3) := by decide +kernel
theorem dX6_copy_14 : decode cX6_copy 14 = .ok (.iload_n 3, 1) := by decide +kernel
theorem dX6_copy_15 : decode cX6_copy 15 = .ok (.invokevirtual 28, 3) := by decide +kernel
theorem dX6_copy_18 : decode cX6_copy 18 = .ok (.astore 7, 2) := by decide +kernel
theorem dX6_copy_20 : decode cX6_copy 20 = .ok (.aload 6, 2) := by decide +kernel
theorem dX6_copy_22 : decode cX6_copy 22 = .ok (.ifnull 8, 3) := by decide +kernel
theorem dX6_copy_25 : decode cX6_copy 25 = .ok (.aload 7, 2) := by decide +kernel
theorem dX6_copy_27 : decode cX6_copy 27 = .ok (.ifnonnull 5, 3) := by decide +kernel
theorem dX6_copy_30 : decode cX6_copy 30 = .ok (.iconst (-1), 1) := by decide +kernel
theorem dX6_copy_31 : decode cX6_copy 31 = .ok (.ireturn, 1) := by decide +kernel
theorem dX6_copy_32 : decode cX6_copy 32 = .ok (.aload 6, 2) := by decide +kernel
theorem dX6_copy_34 : decode cX6_copy 34 = .ok (.invokevirtual 42, 3) := by decide +kernel
theorem dX6_copy_37 : decode cX6_copy 37 = .ok (.ifCond .ne 11, 3) := by decide +kernel
theorem dX6_copy_40 : decode cX6_copy 40 = .ok (.aload 7, 2) := by decide +kernel
theorem dX6_copy_42 : decode cX6_copy 42 = .ok (.invokevirtual 42, 3) := by decide +kernel
theorem dX6_copy_45 : decode cX6_copy 45 = .ok (.ifCond .eq 12, 3) := by decide +kernel
theorem dX6_copy_48 : decode cX6_copy 48 = .ok (.aload_n 0, 1) := by decide +kernel
theorem dX6_copy_49 : decode cX6_copy 49 = .ok (.getfield 12, 3) := by decide +kernel
theorem dX6_copy_52 : decode cX6_copy 52 = .ok (.iconst 1, 1) := by decide +kernel
theorem dX6_copy_53 : decode cX6_copy 53 = .ok (.invokevirtual 34, 3) := by decide +kernel
theorem dX6_copy_56 : decode cX6_copy 56 = .ok (.ireturn, 1) := by decide +kernel
theorem dX6_copy_57 : decode cX6_copy 57 = .ok (.aload 6, 2) := by decide +kernel
theorem dX6_copy_59 : decode cX6_copy 59 = .ok (.iload_n 2, 1) := by decide +kernel
theorem dX6_copy_60 : decode cX6_copy 60 = .ok (.iload 5, 2) := by decide +kernel
theorem dX6_copy_62 : decode cX6_copy 62 = .ok (.invokevirtual 69, 3) := by decide +kernel
theorem dX6_copy_65 : decode cX6_copy 65 = .ok (.ifCond .eq 15, 3) := by decide +kernel
theorem dX6_copy_68 : decode cX6_copy 68 = .ok (.aload 7, 2) := by decide +kernel
theorem dX6_copy_70 : decode cX6_copy 70 = .ok (.iload 4, 2) := by decide +kernel
theorem dX6_copy_72 : decode cX6_copy 72 = .ok (.iload 5, 2) := by decide +kernel
theorem dX6_copy_74 : decode cX6_copy 74 = .ok (.invokevirtual 69, 3) := by decide +kernel
theorem dX6_copy_77 : decode cX6_copy 77 = .ok (.ifCond .ne 12, 3) := by decide +kernel
theorem dX6_copy_80 : decode cX6_copy 80 = .ok (.aload_n 0, 1) := by decide +kernel
theorem dX6_copy_81 : decode cX6_copy 81 = .ok (.getfield 12, 3) := by decide +kernel
theorem dX6_copy_84 : decode cX6_copy 84 = .ok (.iconst 4, 1) := by decide +kernel
theorem dX6_copy_85 : decode cX6_copy 85 = .ok (.invokevirtual 34, 3) := by decide +kernel
theorem dX6_copy_88 : decode cX6_copy 88 = .ok (.ireturn, 1) := by decide +kernel
theorem dX6_copy_89 : decode cX6_copy 89 = .ok (.aload 7, 2) := by decide +kernel
theorem dX6_copy_91 : decode cX6_copy 91 = .ok (.getfield 52, 3) := by decide +kernel
theorem dX6_copy_94 : decode cX6_copy 94 = .ok (.invokevirtual 56, 3) := by decide +kernel
theorem dX6_copy_97 : decode cX6_copy 97 = .ok (.checkcast 57, 3) := by decide +kernel
theorem dX6_copy_100 : decode cX6_copy 100 = .ok (.astore 8, 2) := by decide +kernel
theorem dX6_copy_102 : decode cX6_copy 102 = .ok (.aload 6, 2) := by decide +kernel
theorem dX6_copy_104 : decode cX6_copy 104 = .ok (.getfield 52, 3) := by decide +kernel
theorem dX6_copy_107 : decode cX6_copy 107 = .ok (.iload_n 2, 1) := by decide +kernel
theorem dX6_copy_108 : decode cX6_copy 108 = .ok (.aload 8, 2) := by decide +kernel
theorem dX6_copy_110 : decode cX6_copy 110 = .ok (.iload 4, 2) := by decide +kernel
theorem dX6_copy_112 : decode cX6_copy 112 = .ok (.iload 5, 2) := by decide +kernel
theorem dX6_copy_114 : decode cX6_copy 114 = .ok (.invokestatic 73, 3) := by decide +kernel
theorem dX6_copy_117 : decode cX6_copy 117 = .ok (.aload_n 0, 1) := by decide +kernel
theorem dX6_copy_118 : decode cX6_copy 118 = .ok (.getfield 27, 3) := by decide +kernel
theorem dX6_copy_121 : decode cX6_copy 121 = .ok (.iload_n 3, 1) := by decide +kernel
theorem dX6_copy_122 : decode cX6_copy 122 = .ok (.aload 8, 2) := by decide +kernel
theorem dX6_copy_124 : decode cX6_copy 124 = .ok (.invokevirtual 38, 3) := by decide +kernel
theorem dX6_copy_127 : decode cX6_copy 127 = .ok (.iload 5, 2) := by decide +kernel
theorem dX6_copy_129 : decode cX6_copy 129 = .ok (.ireturn, 1) := by decide +kernel
theorem dX6_size_0 : decode cX6_size 0 = .ok (.aload_n 0, 1) := by decide +kernel
theorem dX6_size_1 : decode cX6_size 1 = .ok (.getfield 27, 3) := by decide +kernel
theorem dX6_size_4 : decode cX6_size 4 = .ok (.iload_n 1, 1) := by decide +kernel
theorem dX6_size_5 : decode cX6_size 5 = .ok (.invokevirtual 28, 3) := by decide +kernel
theorem dX6_size_8 : decode cX6_size 8 = .ok (.astore_n 2, 1) := by decide +kernel
theorem dX6_size_9 : decode cX6_size 9 = .ok (.aload_n 2, 1) := by decide +kernel
theorem dX6_size_10 : decode cX6_size 10 = .ok (.ifnonnull 12, 3) := by decide +kernel
theorem dX6_size_13 : decode cX6_size 13 = .ok (.aload_n 0, 1) := by decide +kernel
theorem dX6_size_14 : decode cX6_size 14 = .ok (.getfield 12, 3) := by decide +kernel
theorem dX6_size_17 : decode cX6_size 17 = .ok (.iconst 2, 1) := by decide +kernel
theorem dX6_size_18 : decode cX6_size 18 = .ok (.invokevirtual 34, 3) := by decide +kernel
theorem dX6_size_21 : decode cX6_size 21 = .ok (.ireturn, 1) := by decide +kernel
theorem dX6_size_22 : decode cX6_size 22 = .ok (.aload_n 2, 1) := by decide +kernel
theorem dX6_size_23 : decode cX6_size 23 = .ok (.invokevirtual 42, 3) := by decide +kernel
theorem dX6_size_26 : decode cX6_size 26 = .ok (.ifCond .eq 12, 3) := by decide +kernel
theorem dX6_size_29 : decode cX6_size 29 = .ok (.aload_n 0, 1) := by decide +kernel
theorem dX6_size_30 : decode cX6_size 30 = .ok (.getfield 12, 3) := by decide +kernel
theorem dX6_size_33 : decode cX6_size 33 = .ok (.iconst 1, 1) := by decide +kernel
theorem dX6_size_34 : decode cX6_size 34 = .ok (.invokevirtual 34, 3) := by decide +kernel
theorem dX6_size_37 : decode cX6_size 37 = .ok (.ireturn, 1) := by decide +kernel
theorem dX6_size_38 : decode cX6_size 38 = .ok (.aload_n 2, 1) := by decide +kernel
theorem dX6_size_39 : decode cX6_size 39 = .ok (.getfield 52, 3) := by decide +kernel
theorem dX6_size_42 : decode cX6_size 42 = .ok (.arraylength, 1) := by decide +kernel
theorem dX6_size_43 : decode cX6_size 43 = .ok (.ireturn, 1) := by decide +kernel
theorem dX6_told_0 : decode cX6_told 0 = .ok (.aload_n 0, 1) := by decide +kernel
theorem dX6_told_1 : decode cX6_told 1 = .ok (.getfield 27, 3) := by decide +kernel
theorem dX6_told_4 : decode cX6_told 4 = .ok (.iload_n 1, 1) := by decide +kernel
theorem dX6_told_5 : decode cX6_told 5 = .ok (.invokevirtual 28, 3) := by decide +kernel
theorem dX6_told_8 : decode cX6_told 8 = .ok (.astore_n 3, 1) := by decide +kernel
theorem dX6_told_9 : decode cX6_told 9 = .ok (.aload_n 3, 1) := by decide +kernel
theorem dX6_told_10 : decode cX6_told 10 = .ok (.ifnonnull 7, 3) := by decide +kernel
theorem dX6_told_13 : decode cX6_told 13 = .ok (.iconst 0, 1) := by decide +kernel
theorem dX6_told_14 : decode cX6_told 14 = .ok (.goto 8, 3) := by decide +kernel
theorem dX6_told_17 : decode cX6_told 17 = .ok (.aload_n 3, 1) := by decide +kernel
theorem dX6_told_18 : decode cX6_told 18 = .ok (.iload_n 2, 1) := by decide +kernel
theorem dX6_told_19 : decode cX6_told 19 = .ok (.invokevirtual 79, 3) := by decide +kernel
theorem dX6_told_22 : decode cX6_told 22 = .ok (.ireturn, 1) := by decide +kernel
theorem dX6_rule_0 : decode cX6_rule 0 = .ok (.iload_n 1, 1) := by decide +kernel
theorem dX6_rule_1 : decode cX6_rule 1 = .ok (.invokestatic 82, 3) := by decide +kernel
theorem dX6_rule_4 : decode cX6_rule 4 = .ok (.ifCond .ne 5, 3) := by decide +kernel
theorem dX6_rule_7 : decode cX6_rule 7 = .ok (.iconst (-1), 1) := by decide +kernel
theorem dX6_rule_8 : decode cX6_rule 8 = .ok (.ireturn, 1) := by decide +kernel
theorem dX6_rule_9 : decode cX6_rule 9 = .ok (.aload_n 0, 1) := by decide +kernel
theorem dX6_rule_10 : decode cX6_rule 10 = .ok (.getfield 27, 3) := by decide +kernel
theorem dX6_rule_13 : decode cX6_rule 13 = .ok (.getfield 85, 3) := by decide +kernel
theorem dX6_rule_16 : decode cX6_rule 16 = .ok (.bipush 24, 2) := by decide +kernel
theorem dX6_rule_18 : decode cX6_rule 18 = .ok (.if_icmp .lt 6, 3) := by decide +kernel
theorem dX6_rule_21 : decode cX6_rule 21 = .ok (.bipush (-2), 2) := by decide +kernel
theorem dX6_rule_23 : decode cX6_rule 23 = .ok (.ireturn, 1) := by decide +kernel
theorem dX6_rule_24 : decode cX6_rule 24 = .ok (.aload_n 0, 1) := by decide +kernel
theorem dX6_rule_25 : decode cX6_rule 25 = .ok (.getfield 27, 3) := by decide +kernel
theorem dX6_rule_28 : decode cX6_rule 28 = .ok (.iload_n 1, 1) := by decide +kernel
theorem dX6_rule_29 : decode cX6_rule 29 = .ok (.iload_n 2, 1) := by decide +kernel
theorem dX6_rule_30 : decode cX6_rule 30 = .ok (.invokevirtual 89, 3) := by decide +kernel
theorem dX6_rule_33 : decode cX6_rule 33 = .ok (.ireturn, 1) := by decide +kernel
theorem dX6_input_0 : decode cX6_input 0 = .ok (.aload_n 0, 1) := by decide +kernel
theorem dX6_input_1 : decode cX6_input 1 = .ok (.getfield 27, 3) := by decide +kernel
theorem dX6_input_4 : decode cX6_input 4 = .ok (.iload_n 1, 1) := by decide +kernel
theorem dX6_input_5 : decode cX6_input 5 = .ok (.invokevirtual 93, 3) := by decide +kernel
theorem dX6_input_8 : decode cX6_input 8 = .ok (.astore_n 3, 1) := by decide +kernel
theorem dX6_input_9 : decode cX6_input 9 = .ok (.aload_n 3, 1) := by decide +kernel
theorem dX6_input_10 : decode cX6_input 10 = .ok (.ifnull 10, 3) := by decide +kernel
theorem dX6_input_13 : decode cX6_input 13 = .ok (.iload_n 2, 1) := by decide +kernel
theorem dX6_input_14 : decode cX6_input 14 = .ok (.invokestatic 97, 3) := by decide +kernel
theorem dX6_input_17 : decode cX6_input 17 = .ok (.ifCond .ne 5, 3) := by decide +kernel
theorem dX6_input_20 : decode cX6_input 20 = .ok (.iconst (-1), 1) := by decide +kernel
theorem dX6_input_21 : decode cX6_input 21 = .ok (.ireturn, 1) := by decide +kernel
theorem dX6_input_22 : decode cX6_input 22 = .ok (.aload_n 3, 1) := by decide +kernel
theorem dX6_input_23 : decode cX6_input 23 = .ok (.getfield 100, 3) := by decide +kernel
theorem dX6_input_26 : decode cX6_input 26 = .ok (.bipush 6, 2) := by decide +kernel
theorem dX6_input_28 : decode cX6_input 28 = .ok (.if_icmp .lt 6, 3) := by decide +kernel
theorem dX6_input_31 : decode cX6_input 31 = .ok (.bipush (-2), 2) := by decide +kernel
theorem dX6_input_33 : decode cX6_input 33 = .ok (.ireturn, 1) := by decide +kernel
theorem dX6_input_34 : decode cX6_input 34 = .ok (.aload_n 3, 1) := by decide +kernel
theorem dX6_input_35 : decode cX6_input 35 = .ok (.getfield 105, 3) := by decide +kernel
theorem dX6_input_38 : decode cX6_input 38 = .ok (.aload_n 3, 1) := by decide +kernel
theorem dX6_input_39 : decode cX6_input 39 = .ok (.getfield 100, 3) := by decide +kernel
theorem dX6_input_42 : decode cX6_input 42 = .ok (.iload_n 2, 1) := by decide +kernel
theorem dX6_input_43 : decode cX6_input 43 = .ok (.iastore, 1) := by decide +kernel
theorem dX6_input_44 : decode cX6_input 44 = .ok (.aload_n 3, 1) := by decide +kernel
theorem dX6_input_45 : decode cX6_input 45 = .ok (.dup, 1) := by decide +kernel
theorem dX6_input_46 : decode cX6_input 46 = .ok (.getfield 100, 3) := by decide +kernel
theorem dX6_input_49 : decode cX6_input 49 = .ok (.iconst 1, 1) := by decide +kernel
theorem dX6_input_50 : decode cX6_input 50 = .ok (.iadd, 1) := by decide +kernel
theorem dX6_input_51 : decode cX6_input 51 = .ok (.putfield 100, 3) := by decide +kernel
theorem dX6_input_54 : decode cX6_input 54 = .ok (.aload_n 3, 1) := by decide +kernel
theorem dX6_input_55 : decode cX6_input 55 = .ok (.invokevirtual 108, 3) := by decide +kernel
theorem dX6_input_58 : decode cX6_input 58 = .ok (.aload_n 3, 1) := by decide +kernel
theorem dX6_input_59 : decode cX6_input 59 = .ok (.getfield 100, 3) := by decide +kernel
theorem dX6_input_62 : decode cX6_input 62 = .ok (.ireturn, 1) := by decide +kernel
theorem dX6_turn_0 : decode cX6_turn 0 = .ok (.aload_n 0, 1) := by decide +kernel
theorem dX6_turn_1 : decode cX6_turn 1 = .ok (.getfield 27, 3) := by decide +kernel
theorem dX6_turn_4 : decode cX6_turn 4 = .ok (.iload_n 1, 1) := by decide +kernel
theorem dX6_turn_5 : decode cX6_turn 5 = .ok (.invokevirtual 93, 3) := by decide +kernel
theorem dX6_turn_8 : decode cX6_turn 8 = .ok (.astore 4, 2) := by decide +kernel
theorem dX6_turn_10 : decode cX6_turn 10 = .ok (.aload 4, 2) := by decide +kernel
theorem dX6_turn_12 : decode cX6_turn 12 = .ok (.ifnull 19, 3) := by decide +kernel
theorem dX6_turn_15 : decode cX6_turn 15 = .ok (.aload 4, 2) := by decide +kernel
theorem dX6_turn_17 : decode cX6_turn 17 = .ok (.iload_n 2, 1) := by decide +kernel
theorem dX6_turn_18 : decode cX6_turn 18 = .ok (.invokevirtual 111, 3) := by decide +kernel
theorem dX6_turn_21 : decode cX6_turn 21 = .ok (.ifCond .eq 10, 3) := by decide +kernel
theorem dX6_turn_24 : decode cX6_turn 24 = .ok (.iload_n 3, 1) := by decide +kernel
theorem dX6_turn_25 : decode cX6_turn 25 = .ok (.invokestatic 97, 3) := by decide +kernel
theorem dX6_turn_28 : decode cX6_turn 28 = .ok (.ifCond .ne 5, 3) := by decide +kernel
theorem dX6_turn_31 : decode cX6_turn 31 = .ok (.iconst (-1), 1) := by decide +kernel
theorem dX6_turn_32 : decode cX6_turn 32 = .ok (.ireturn, 1) := by decide +kernel
theorem dX6_turn_33 : decode cX6_turn 33 = .ok (.aload 4, 2) := by decide +kernel
theorem dX6_turn_35 : decode cX6_turn 35 = .ok (.getfield 105, 3) := by decide +kernel
theorem dX6_turn_38 : decode cX6_turn 38 = .ok (.iload_n 2, 1) := by decide +kernel
theorem dX6_turn_39 : decode cX6_turn 39 = .ok (.iaload, 1) := by decide +kernel
theorem dX6_turn_40 : decode cX6_turn 40 = .ok (.iload_n 3, 1) := by decide +kernel
theorem dX6_turn_41 : decode cX6_turn 41 = .ok (.if_icmp .ne 5, 3) := by decide +kernel
theorem dX6_turn_44 : decode cX6_turn 44 = .ok (.iconst 0, 1) := by decide +kernel
theorem dX6_turn_45 : decode cX6_turn 45 = .ok (.ireturn, 1) := by decide +kernel
theorem dX6_turn_46 : decode cX6_turn 46 = .ok (.aload 4, 2) := by decide +kernel
theorem dX6_turn_48 : decode cX6_turn 48 = .ok (.getfield 105, 3) := by decide +kernel
theorem dX6_turn_51 : decode cX6_turn 51 = .ok (.iload_n 2, 1) := by decide +kernel
theorem dX6_turn_52 : decode cX6_turn 52 = .ok (.iload_n 3, 1) := by decide +kernel
theorem dX6_turn_53 : decode cX6_turn 53 = .ok (.iastore, 1) := by decide +kernel
theorem dX6_turn_54 : decode cX6_turn 54 = .ok (.aload 4, 2) := by decide +kernel
theorem dX6_turn_56 : decode cX6_turn 56 = .ok (.invokevirtual 108, 3) := by decide +kernel
theorem dX6_turn_59 : decode cX6_turn 59 = .ok (.iconst 1, 1) := by decide +kernel
theorem dX6_turn_60 : decode cX6_turn 60 = .ok (.ireturn, 1) := by decide +kernel
theorem dX6_become_0 : decode cX6_become 0 = .ok (.aload_n 0, 1) := by decide +kernel
theorem dX6_become_1 : decode cX6_become 1 = .ok (.getfield 27, 3) := by decide +kernel
theorem dX6_become_4 : decode cX6_become 4 = .ok (.iload_n 1, 1) := by decide +kernel
theorem dX6_become_5 : decode cX6_become 5 = .ok (.invokevirtual 93, 3) := by decide +kernel
theorem dX6_become_8 : decode cX6_become 8 = .ok (.astore 4, 2) := by decide +kernel
theorem dX6_become_10 : decode cX6_become 10 = .ok (.aload 4, 2) := by decide +kernel
theorem dX6_become_12 : decode cX6_become 12 = .ok (.ifnull 10, 3) := by decide +kernel
theorem dX6_become_15 : decode cX6_become 15 = .ok (.iload_n 2, 1) := by decide +kernel
theorem dX6_become_16 : decode cX6_become 16 = .ok (.invokestatic 82, 3) := by decide +kernel
theorem dX6_become_19 : decode cX6_become 19 = .ok (.ifCond .ne 5, 3) := by decide +kernel
theorem dX6_become_22 : decode cX6_become 22 = .ok (.iconst (-1), 1) := by decide +kernel
theorem dX6_become_23 : decode cX6_become 23 = .ok (.ireturn, 1) := by decide +kernel
theorem dX6_become_24 : decode cX6_become 24 = .ok (.aload 4, 2) := by decide +kernel
theorem dX6_become_26 : decode cX6_become 26 = .ok (.iload_n 2, 1) := by decide +kernel
theorem dX6_become_27 : decode cX6_become 27 = .ok (.putfield 114, 3) := by decide +kernel
theorem dX6_become_30 : decode cX6_become 30 = .ok (.aload 4, 2) := by decide +kernel
theorem dX6_become_32 : decode cX6_become 32 = .ok (.iload_n 3, 1) := by decide +kernel
theorem dX6_become_33 : decode cX6_become 33 = .ok (.putfield 117, 3) := by decide +kernel
theorem dX6_become_36 : decode cX6_become 36 = .ok (.aload 4, 2) := by decide +kernel
theorem dX6_become_38 : decode cX6_become 38 = .ok (.invokevirtual 108, 3) := by decide +kernel
theorem dX6_become_41 : decode cX6_become 41 = .ok (.iconst 1, 1) := by decide +kernel
theorem dX6_become_42 : decode cX6_become 42 = .ok (.ireturn, 1) := by decide +kernel
theorem dX6_forget_0 : decode cX6_forget 0 = .ok (.aload_n 0, 1) := by decide +kernel
theorem dX6_forget_1 : decode cX6_forget 1 = .ok (.getfield 27, 3) := by decide +kernel
theorem dX6_forget_4 : decode cX6_forget 4 = .ok (.iload_n 1, 1) := by decide +kernel
theorem dX6_forget_5 : decode cX6_forget 5 = .ok (.invokevirtual 93, 3) := by decide +kernel
theorem dX6_forget_8 : decode cX6_forget 8 = .ok (.astore_n 2, 1) := by decide +kernel
theorem dX6_forget_9 : decode cX6_forget 9 = .ok (.aload_n 2, 1) := by decide +kernel
theorem dX6_forget_10 : decode cX6_forget 10 = .ok (.ifnonnull 5, 3) := by decide +kernel
theorem dX6_forget_13 : decode cX6_forget 13 = .ok (.iconst (-1), 1) := by decide +kernel
theorem dX6_forget_14 : decode cX6_forget 14 = .ok (.ireturn, 1) := by decide +kernel
theorem dX6_forget_15 : decode cX6_forget 15 = .ok (.aload_n 2, 1) := by decide +kernel
theorem dX6_forget_16 : decode cX6_forget 16 = .ok (.getfield 121, 3) := by decide +kernel
theorem dX6_forget_19 : decode cX6_forget 19 = .ok (.istore_n 3, 1) := by decide +kernel
theorem dX6_forget_20 : decode cX6_forget 20 = .ok (.aload_n 2, 1) := by decide +kernel
theorem dX6_forget_21 : decode cX6_forget 21 = .ok (.invokevirtual 108, 3) := by decide +kernel
theorem dX6_forget_24 : decode cX6_forget 24 = .ok (.iload_n 3, 1) := by decide +kernel
theorem dX6_forget_25 : decode cX6_forget 25 = .ok (.ireturn, 1) := by decide +kernel
theorem dX6_of_0 : decode cX6_of 0 = .ok (.iload_n 2, 1) := by decide +kernel
theorem dX6_of_1 : decode cX6_of 1 = .ok (.ifCond .lt 9, 3) := by decide +kernel
theorem dX6_of_4 : decode cX6_of 4 = .ok (.iload_n 2, 1) := by decide +kernel
theorem dX6_of_5 : decode cX6_of 5 = .ok (.bipush 9, 2) := by decide +kernel
theorem dX6_of_7 : decode cX6_of 7 = .ok (.if_icmp .le 5, 3) := by decide +kernel
theorem dX6_of_10 : decode cX6_of 10 = .ok (.iconst (-1), 1) := by decide +kernel
theorem dX6_of_11 : decode cX6_of 11 = .ok (.ireturn, 1) := by decide +kernel
theorem dX6_of_12 : decode cX6_of 12 = .ok (.aload_n 0, 1) := by decide +kernel
theorem dX6_of_13 : decode cX6_of 13 = .ok (.getfield 27, 3) := by decide +kernel
theorem dX6_of_16 : decode cX6_of 16 = .ok (.iload_n 1, 1) := by decide +kernel
theorem dX6_of_17 : decode cX6_of 17 = .ok (.invokevirtual 93, 3) := by decide +kernel
theorem dX6_of_20 : decode cX6_of 20 = .ok (.astore_n 3, 1) := by decide +kernel
theorem dX6_of_21 : decode cX6_of 21 = .ok (.aload_n 3, 1) := by decide +kernel
theorem dX6_of_22 : decode cX6_of 22 = .ok (.ifnonnull 12, 3) := by decide +kernel
theorem dX6_of_25 : decode cX6_of 25 = .ok (.aload_n 0, 1) := by decide +kernel
theorem dX6_of_26 : decode cX6_of 26 = .ok (.getfield 12, 3) := by decide +kernel
theorem dX6_of_29 : decode cX6_of 29 = .ok (.iconst 2, 1) := by decide +kernel
theorem dX6_of_30 : decode cX6_of 30 = .ok (.invokevirtual 34, 3) := by decide +kernel
theorem dX6_of_33 : decode cX6_of 33 = .ok (.ireturn, 1) := by decide +kernel
theorem dX6_of_34 : decode cX6_of 34 = .ok (.iload_n 2, 1) := by decide +kernel
theorem dX6_of_35 : decode cX6_of 35 = .ok (.tableswitch 57 0 3 #[29, 34, 47, 52], 29) := by decide +kernel
theorem dX6_of_64 : decode cX6_of 64 = .ok (.aload_n 3, 1) := by decide +kernel
theorem dX6_of_65 : decode cX6_of 65 = .ok (.getfield 114, 3) := by decide +kernel
theorem dX6_of_68 : decode cX6_of 68 = .ok (.ireturn, 1) := by decide +kernel
theorem dX6_of_69 : decode cX6_of 69 = .ok (.aload_n 3, 1) := by decide +kernel
theorem dX6_of_70 : decode cX6_of 70 = .ok (.getfield 117, 3) := by decide +kernel
theorem dX6_of_73 : decode cX6_of 73 = .ok (.ifCond .eq 7, 3) := by decide +kernel
theorem dX6_of_76 : decode cX6_of 76 = .ok (.iconst 1, 1) := by decide +kernel
theorem dX6_of_77 : decode cX6_of 77 = .ok (.goto 4, 3) := by decide +kernel
theorem dX6_of_80 : decode cX6_of 80 = .ok (.iconst 0, 1) := by decide +kernel
theorem dX6_of_81 : decode cX6_of 81 = .ok (.ireturn, 1) := by decide +kernel
theorem dX6_of_82 : decode cX6_of 82 = .ok (.aload_n 3, 1) := by decide +kernel
theorem dX6_of_83 : decode cX6_of 83 = .ok (.getfield 100, 3) := by decide +kernel
theorem dX6_of_86 : decode cX6_of 86 = .ok (.ireturn, 1) := by decide +kernel
theorem dX6_of_87 : decode cX6_of 87 = .ok (.aload_n 3, 1) := by decide +kernel
theorem dX6_of_88 : decode cX6_of 88 = .ok (.getfield 121, 3) := by decide +kernel
theorem dX6_of_91 : decode cX6_of 91 = .ok (.ireturn, 1) := by decide +kernel
theorem dX6_of_92 : decode cX6_of 92 = .ok (.aload_n 3, 1) := by decide +kernel
theorem dX6_of_93 : decode cX6_of 93 = .ok (.iload_n 2, 1) := by decide +kernel
theorem dX6_of_94 : decode cX6_of 94 = .ok (.iconst 4, 1) := by decide +kernel
theorem dX6_of_95 : decode cX6_of 95 = .ok (.isub, 1) := by decide +kernel
theorem dX6_of_96 : decode cX6_of 96 = .ok (.invokevirtual 111, 3) := by decide +kernel
theorem dX6_of_99 : decode cX6_of 99 = .ok (.ifCond .eq 14, 3) := by decide +kernel
theorem dX6_of_102 : decode cX6_of 102 = .ok (.aload_n 3, 1) := by decide +kernel
theorem dX6_of_103 : decode cX6_of 103 = .ok (.getfield 105, 3) := by decide +kernel
theorem dX6_of_106 : decode cX6_of 106 = .ok (.iload_n 2, 1) := by decide +kernel
theorem dX6_of_107 : decode cX6_of 107 = .ok (.iconst 4, 1) := by decide +kernel
theorem dX6_of_108 : decode cX6_of 108 = .ok (.isub, 1) := by decide +kernel
theorem dX6_of_109 : decode cX6_of 109 = .ok (.iaload, 1) := by decide +kernel
theorem dX6_of_110 : decode cX6_of 110 = .ok (.goto 4, 3) := by decide +kernel
theorem dX6_of_113 : decode cX6_of 113 = .ok (.iconst (-1), 1) := by decide +kernel
theorem dX6_of_114 : decode cX6_of 114 = .ok (.ireturn, 1) := by decide +kernel
theorem dX6_trace_0 : decode cX6_trace 0 = .ok (.aload_n 0, 1) := by decide +kernel
theorem dX6_trace_1 : decode cX6_trace 1 = .ok (.getfield 27, 3) := by decide +kernel
theorem dX6_trace_4 : decode cX6_trace 4 = .ok (.iload_n 1, 1) := by decide +kernel
theorem dX6_trace_5 : decode cX6_trace 5 = .ok (.invokevirtual 93, 3) := by decide +kernel
theorem dX6_trace_8 : decode cX6_trace 8 = .ok (.astore 4, 2) := by decide +kernel
theorem dX6_trace_10 : decode cX6_trace 10 = .ok (.aload 4, 2) := by decide +kernel
theorem dX6_trace_12 : decode cX6_trace 12 = .ok (.ifnonnull 7, 3) := by decide +kernel
theorem dX6_trace_15 : decode cX6_trace 15 = .ok (.aconst_null, 1) := by decide +kernel
theorem dX6_trace_16 : decode cX6_trace 16 = .ok (.goto 9, 3) := by decide +kernel
theorem dX6_trace_19 : decode cX6_trace 19 = .ok (.aload 4, 2) := by decide +kernel
theorem dX6_trace_21 : decode cX6_trace 21 = .ok (.iload_n 2, 1) := by decide +kernel
theorem dX6_trace_22 : decode cX6_trace 22 = .ok (.invokevirtual 124, 3) := by decide +kernel
theorem dX6_trace_25 : decode cX6_trace 25 = .ok (.astore 5, 2) := by decide +kernel
theorem dX6_trace_27 : decode cX6_trace 27 = .ok (.aload 5, 2) := by decide +kernel
theorem dX6_trace_29 : decode cX6_trace 29 = .ok (.ifnonnull 5, 3) := by decide +kernel
theorem dX6_trace_32 : decode cX6_trace 32 = .ok (.iconst (-1), 1) := by decide +kernel
theorem dX6_trace_33 : decode cX6_trace 33 = .ok (.ireturn, 1) := by decide +kernel
theorem dX6_trace_34 : decode cX6_trace 34 = .ok (.iload_n 3, 1) := by decide +kernel
theorem dX6_trace_35 : decode cX6_trace 35 = .ok (.iconst (-1), 1) := by decide +kernel
theorem dX6_trace_36 : decode cX6_trace 36 = .ok (.if_icmp .ne 11, 3) := by decide +kernel
theorem dX6_trace_39 : decode cX6_trace 39 = .ok (.aload 5, 2) := by decide +kernel
theorem dX6_trace_41 : decode cX6_trace 41 = .ok (.getfield 128, 3) := by decide +kernel
theorem dX6_trace_44 : decode cX6_trace 44 = .ok (.goto 9, 3) := by decide +kernel
theorem dX6_trace_47 : decode cX6_trace 47 = .ok (.aload 5, 2) := by decide +kernel
theorem dX6_trace_49 : decode cX6_trace 49 = .ok (.iload_n 3, 1) := by decide +kernel
theorem dX6_trace_50 : decode cX6_trace 50 = .ok (.invokevirtual 133, 3) := by decide +kernel
theorem dX6_trace_53 : decode cX6_trace 53 = .ok (.ireturn, 1) := by decide +kernel
theorem dX6_make_0 : decode cX6_make 0 = .ok (.aload_n 0, 1) := by decide +kernel
theorem dX6_make_1 : decode cX6_make 1 = .ok (.getfield 27, 3) := by decide +kernel
theorem dX6_make_4 : decode cX6_make 4 = .ok (.iload_n 1, 1) := by decide +kernel
theorem dX6_make_5 : decode cX6_make 5 = .ok (.invokevirtual 93, 3) := by decide +kernel
theorem dX6_make_8 : decode cX6_make 8 = .ok (.astore_n 2, 1) := by decide +kernel
theorem dX6_make_9 : decode cX6_make 9 = .ok (.aload_n 2, 1) := by decide +kernel
theorem dX6_make_10 : decode cX6_make 10 = .ok (.ifnonnull 7, 3) := by decide +kernel
theorem dX6_make_13 : decode cX6_make 13 = .ok (.iconst (-1), 1) := by decide +kernel
theorem dX6_make_14 : decode cX6_make 14 = .ok (.goto 12, 3) := by decide +kernel
theorem dX6_make_17 : decode cX6_make 17 = .ok (.aload_n 0, 1) := by decide +kernel
theorem dX6_make_18 : decode cX6_make 18 = .ok (.getfield 19, 3) := by decide +kernel
theorem dX6_make_21 : decode cX6_make 21 = .ok (.aload_n 2, 1) := by decide +kernel
theorem dX6_make_22 : decode cX6_make 22 = .ok (.iconst 0, 1) := by decide +kernel
theorem dX6_make_23 : decode cX6_make 23 = .ok (.invokevirtual 136, 3) := by decide +kernel
theorem dX6_make_26 : decode cX6_make 26 = .ok (.ireturn, 1) := by decide +kernel
theorem dX6_anew_0 : decode cX6_anew 0 = .ok (.aload_n 0, 1) := by decide +kernel
theorem dX6_anew_1 : decode cX6_anew 1 = .ok (.getfield 27, 3) := by decide +kernel
theorem dX6_anew_4 : decode cX6_anew 4 = .ok (.iload_n 1, 1) := by decide +kernel
theorem dX6_anew_5 : decode cX6_anew 5 = .ok (.invokevirtual 93, 3) := by decide +kernel
theorem dX6_anew_8 : decode cX6_anew 8 = .ok (.astore_n 2, 1) := by decide +kernel
theorem dX6_anew_9 : decode cX6_anew 9 = .ok (.aload_n 2, 1) := by decide +kernel
theorem dX6_anew_10 : decode cX6_anew 10 = .ok (.ifnonnull 7, 3) := by decide +kernel
theorem dX6_anew_13 : decode cX6_anew 13 = .ok (.iconst (-1), 1) := by decide +kernel
theorem dX6_anew_14 : decode cX6_anew 14 = .ok (.goto 12, 3) := by decide +kernel
theorem dX6_anew_17 : decode cX6_anew 17 = .ok (.aload_n 0, 1) := by decide +kernel
theorem dX6_anew_18 : decode cX6_anew 18 = .ok (.getfield 19, 3) := by decide +kernel
theorem dX6_anew_21 : decode cX6_anew 21 = .ok (.aload_n 2, 1) := by decide +kernel
theorem dX6_anew_22 : decode cX6_anew 22 = .ok (.iconst 1, 1) := by decide +kernel
theorem dX6_anew_23 : decode cX6_anew 23 = .ok (.invokevirtual 136, 3) := by decide +kernel
theorem dX6_anew_26 : decode cX6_anew 26 = .ok (.ireturn, 1) := by decide +kernel
theorem dX6_outcome_0 : decode cX6_outcome 0 = .ok (.aload_n 0, 1) := by decide +kernel
theorem dX6_outcome_1 : decode cX6_outcome 1 = .ok (.getfield 19, 3) := by decide +kernel
theorem dX6_outcome_4 : decode cX6_outcome 4 = .ok (.getfield 140, 3) := by decide +kernel
theorem dX6_outcome_7 : decode cX6_outcome 7 = .ok (.astore_n 2, 1) := by decide +kernel
theorem dX6_outcome_8 : decode cX6_outcome 8 = .ok (.aload_n 2, 1) := by decide +kernel
theorem dX6_outcome_9 : decode cX6_outcome 9 = .ok (.ifnonnull 5, 3) := by decide +kernel
theorem dX6_outcome_12 : decode cX6_outcome 12 = .ok (.iconst (-1), 1) := by decide +kernel
theorem dX6_outcome_13 : decode cX6_outcome 13 = .ok (.ireturn, 1) := by decide +kernel
theorem dX6_outcome_14 : decode cX6_outcome 14 = .ok (.iload_n 1, 1) := by decide +kernel
theorem dX6_outcome_15 : decode cX6_outcome 15 = .ok (.tableswitch 41 0 2 #[25, 31, 36], 25) := by decide +kernel
theorem dX6_outcome_40 : decode cX6_outcome 40 = .ok (.aload_n 2, 1) := by decide +kernel
theorem dX6_outcome_41 : decode cX6_outcome 41 = .ok (.getfield 52, 3) := by decide +kernel
theorem dX6_outcome_44 : decode cX6_outcome 44 = .ok (.arraylength, 1) := by decide +kernel
theorem dX6_outcome_45 : decode cX6_outcome 45 = .ok (.ireturn, 1) := by decide +kernel
theorem dX6_outcome_46 : decode cX6_outcome 46 = .ok (.aload_n 2, 1) := by decide +kernel
theorem dX6_outcome_47 : decode cX6_outcome 47 = .ok (.getfield 144, 3) := by decide +kernel
theorem dX6_outcome_50 : decode cX6_outcome 50 = .ok (.ireturn, 1) := by decide +kernel
theorem dX6_outcome_51 : decode cX6_outcome 51 = .ok (.aload_n 2, 1) := by decide +kernel
theorem dX6_outcome_52 : decode cX6_outcome 52 = .ok (.getfield 147, 3) := by decide +kernel
theorem dX6_outcome_55 : decode cX6_outcome 55 = .ok (.ireturn, 1) := by decide +kernel
theorem dX6_outcome_56 : decode cX6_outcome 56 = .ok (.iconst (-1), 1) := by decide +kernel
theorem dX6_outcome_57 : decode cX6_outcome 57 = .ok (.ireturn, 1) := by decide +kernel
theorem dX6_part_0 : decode cX6_part 0 = .ok (.aload_n 0, 1) := by decide +kernel
theorem dX6_part_1 : decode cX6_part 1 = .ok (.getfield 19, 3) := by decide +kernel
theorem dX6_part_4 : decode cX6_part 4 = .ok (.getfield 140, 3) := by decide +kernel
theorem dX6_part_7 : decode cX6_part 7 = .ok (.astore_n 2, 1) := by decide +kernel
theorem dX6_part_8 : decode cX6_part 8 = .ok (.aload_n 2, 1) := by decide +kernel
theorem dX6_part_9 : decode cX6_part 9 = .ok (.ifnonnull 7, 3) := by decide +kernel
theorem dX6_part_12 : decode cX6_part 12 = .ok (.iconst 0, 1) := by decide +kernel
theorem dX6_part_13 : decode cX6_part 13 = .ok (.goto 8, 3) := by decide +kernel
theorem dX6_part_16 : decode cX6_part 16 = .ok (.aload_n 2, 1) := by decide +kernel
theorem dX6_part_17 : decode cX6_part 17 = .ok (.iload_n 1, 1) := by decide +kernel
theorem dX6_part_18 : decode cX6_part 18 = .ok (.invokevirtual 79, 3) := by decide +kernel
theorem dX6_part_21 : decode cX6_part 21 = .ok (.ireturn, 1) := by decide +kernel
theorem dX6_ring_0 : decode cX6_ring 0 = .ok (.iconst 0, 1) := by decide +kernel
theorem dX6_ring_1 : decode cX6_ring 1 = .ok (.istore_n 2, 1) := by decide +kernel
theorem dX6_ring_2 : decode cX6_ring 2 = .ok (.iconst 0, 1) := by decide +kernel
theorem dX6_ring_3 : decode cX6_ring 3 = .ok (.istore_n 3, 1) := by decide +kernel
theorem dX6_ring_4 : decode cX6_ring 4 = .ok (.iload_n 3, 1) := by decide +kernel
theorem dX6_ring_5 : decode cX6_ring 5 = .ok (.bipush 24, 2) := by decide +kernel
theorem dX6_ring_7 : decode cX6_ring 7 = .ok (.if_icmp .ge 33, 3) := by decide +kernel
theorem dX6_ring_10 : decode cX6_ring 10 = .ok (.aload_n 0, 1) := by decide +kernel
theorem dX6_ring_11 : decode cX6_ring 11 = .ok (.getfield 19, 3) := by decide +kernel
theorem dX6_ring_14 : decode cX6_ring 14 = .ok (.getfield 150, 3) := by decide +kernel
theorem dX6_ring_17 : decode cX6_ring 17 = .ok (.iload_n 3, 1) := by decide +kernel
theorem dX6_ring_18 : decode cX6_ring 18 = .ok (.invokestatic 153, 3) := by decide +kernel
theorem dX6_ring_21 : decode cX6_ring 21 = .ok (.ifCond .eq 13, 3) := by decide +kernel
theorem dX6_ring_24 : decode cX6_ring 24 = .ok (.iload_n 2, 1) := by decide +kernel
theorem dX6_ring_25 : decode cX6_ring 25 = .ok (.iload_n 1, 1) := by decide +kernel
theorem dX6_ring_26 : decode cX6_ring 26 = .ok (.if_icmp .ne 5, 3) := by decide +kernel
theorem dX6_ring_29 : decode cX6_ring 29 = .ok (.iload_n 3, 1) := by decide +kernel
theorem dX6_ring_30 : decode cX6_ring 30 = .ok (.ireturn, 1) := by decide +kernel
theorem dX6_ring_31 : decode cX6_ring 31 = .ok (.iinc 2 1, 3) := by decide +kernel
theorem dX6_ring_34 : decode cX6_ring 34 = .ok (.iinc 3 1, 3) := by decide +kernel
theorem dX6_ring_37 : decode cX6_ring 37 = .ok (.goto (-33), 3) := by decide +kernel
theorem dX6_ring_40 : decode cX6_ring 40 = .ok (.iconst (-1), 1) := by decide +kernel
theorem dX6_ring_41 : decode cX6_ring 41 = .ok (.ireturn, 1) := by decide +kernel
theorem dX6_worked_0 : decode cX6_worked 0 = .ok (.iload_n 1, 1) := by decide +kernel
theorem dX6_worked_1 : decode cX6_worked 1 = .ok (.ifCond .lt 26, 3) := by decide +kernel
theorem dX6_worked_4 : decode cX6_worked 4 = .ok (.iload_n 1, 1) := by decide +kernel
theorem dX6_worked_5 : decode cX6_worked 5 = .ok (.aload_n 0, 1) := by decide +kernel
theorem dX6_worked_6 : decode cX6_worked 6 = .ok (.getfield 19, 3) := by decide +kernel
theorem dX6_worked_9 : decode cX6_worked 9 = .ok (.getfield 156, 3) := by decide +kernel
theorem dX6_worked_12 : decode cX6_worked 12 = .ok (.if_icmp .ge 15, 3) := by decide +kernel
theorem dX6_worked_15 : decode cX6_worked 15 = .ok (.aload_n 0, 1) := by decide +kernel
theorem dX6_worked_16 : decode cX6_worked 16 = .ok (.getfield 19, 3) := by decide +kernel
theorem dX6_worked_19 : decode cX6_worked 19 = .ok (.getfield 159, 3) := by decide +kernel
theorem dX6_worked_22 : decode cX6_worked 22 = .ok (.iload_n 1, 1) := by decide +kernel
theorem dX6_worked_23 : decode cX6_worked 23 = .ok (.iaload, 1) := by decide +kernel
theorem dX6_worked_24 : decode cX6_worked 24 = .ok (.goto 4, 3) := by decide +kernel
theorem dX6_worked_27 : decode cX6_worked 27 = .ok (.iconst (-1), 1) := by decide +kernel
theorem dX6_worked_28 : decode cX6_worked 28 = .ok (.ireturn, 1) := by decide +kernel
theorem dX6_looked_0 : decode cX6_looked 0 = .ok (.aload_n 0, 1) := by decide +kernel
theorem dX6_looked_1 : decode cX6_looked 1 = .ok (.getfield 19, 3) := by decide +kernel
theorem dX6_looked_4 : decode cX6_looked 4 = .ok (.getfield 162, 3) := by decide +kernel
theorem dX6_looked_7 : decode cX6_looked 7 = .ok (.ireturn, 1) := by decide +kernel
theorem dX6_stale_0 : decode cX6_stale 0 = .ok (.aload_n 0, 1) := by decide +kernel
theorem dX6_stale_1 : decode cX6_stale 1 = .ok (.getfield 27, 3) := by decide +kernel
theorem dX6_stale_4 : decode cX6_stale 4 = .ok (.iload_n 1, 1) := by decide +kernel
theorem dX6_stale_5 : decode cX6_stale 5 = .ok (.invokevirtual 93, 3) := by decide +kernel
theorem dX6_stale_8 : decode cX6_stale 8 = .ok (.astore_n 3, 1) := by decide +kernel
theorem dX6_stale_9 : decode cX6_stale 9 = .ok (.aload_n 3, 1) := by decide +kernel
theorem dX6_stale_10 : decode cX6_stale 10 = .ok (.ifnull 21, 3) := by decide +kernel
theorem dX6_stale_13 : decode cX6_stale 13 = .ok (.iload_n 2, 1) := by decide +kernel
theorem dX6_stale_14 : decode cX6_stale 14 = .ok (.ifCond .lt 17, 3) := by decide +kernel
theorem dX6_stale_17 : decode cX6_stale 17 = .ok (.iload_n 2, 1) := by decide +kernel
theorem dX6_stale_18 : decode cX6_stale 18 = .ok (.iconst 4, 1) := by decide +kernel
theorem dX6_stale_19 : decode cX6_stale 19 = .ok (.if_icmp .ge 12, 3) := by decide +kernel
theorem dX6_stale_22 : decode cX6_stale 22 = .ok (.aload_n 3, 1) := by decide +kernel
theorem dX6_stale_23 : decode cX6_stale 23 = .ok (.getfield 165, 3) := by decide +kernel
theorem dX6_stale_26 : decode cX6_stale 26 = .ok (.iload_n 2, 1) := by decide +kernel
theorem dX6_stale_27 : decode cX6_stale 27 = .ok (.iaload, 1) := by decide +kernel
theorem dX6_stale_28 : decode cX6_stale 28 = .ok (.goto 4, 3) := by decide +kernel
theorem dX6_stale_31 : decode cX6_stale 31 = .ok (.iconst (-1), 1) := by decide +kernel
theorem dX6_stale_32 : decode cX6_stale 32 = .ok (.ireturn, 1) := by decide +kernel
theorem dX6_count_0 : decode cX6_count 0 = .ok (.iload_n 1, 1) := by decide +kernel
theorem dX6_count_1 : decode cX6_count 1 = .ok (.tableswitch 63 0 3 #[31, 39, 47, 55], 31) := by decide +kernel
theorem dX6_count_32 : decode cX6_count 32 = .ok (.aload_n 0, 1) := by decide +kernel
theorem dX6_count_33 : decode cX6_count 33 = .ok (.getfield 27, 3) := by decide +kernel
theorem dX6_count_36 : decode cX6_count 36 = .ok (.getfield 85, 3) := by decide +kernel
theorem dX6_count_39 : decode cX6_count 39 = .ok (.ireturn, 1) := by decide +kernel
theorem dX6_count_40 : decode cX6_count 40 = .ok (.aload_n 0, 1) := by decide +kernel
theorem dX6_count_41 : decode cX6_count 41 = .ok (.getfield 19, 3) := by decide +kernel
theorem dX6_count_44 : decode cX6_count 44 = .ok (.getfield 168, 3) := by decide +kernel
theorem dX6_count_47 : decode cX6_count 47 = .ok (.ireturn, 1) := by decide +kernel
theorem dX6_count_48 : decode cX6_count 48 = .ok (.aload_n 0, 1) := by decide +kernel
theorem dX6_count_49 : decode cX6_count 49 = .ok (.getfield 19, 3) := by decide +kernel
theorem dX6_count_52 : decode cX6_count 52 = .ok (.getfield 171, 3) := by decide +kernel
theorem dX6_count_55 : decode cX6_count 55 = .ok (.ireturn, 1) := by decide +kernel
theorem dX6_count_56 : decode cX6_count 56 = .ok (.aload_n 0, 1) := by decide +kernel
theorem dX6_count_57 : decode cX6_count 57 = .ok (.getfield 27, 3) := by decide +kernel
theorem dX6_count_60 : decode cX6_count 60 = .ok (.invokevirtual 174, 3) := by decide +kernel
theorem dX6_count_63 : decode cX6_count 63 = .ok (.ireturn, 1) := by decide +kernel
theorem dX6_count_64 : decode cX6_count 64 = .ok (.iconst (-1), 1) := by decide +kernel
theorem dX6_count_65 : decode cX6_count 65 = .ok (.ireturn, 1) := by decide +kernel
theorem dX6_found_0 : decode cX6_found 0 = .ok (.iload_n 1, 1) := by decide +kernel
theorem dX6_found_1 : decode cX6_found 1 = .ok (.ifCond .ne 11, 3) := by decide +kernel
theorem dX6_found_4 : decode cX6_found 4 = .ok (.aload_n 0, 1) := by decide +kernel
theorem dX6_found_5 : decode cX6_found 5 = .ok (.getfield 12, 3) := by decide +kernel
theorem dX6_found_8 : decode cX6_found 8 = .ok (.getfield 178, 3) := by decide +kernel
theorem dX6_found_11 : decode cX6_found 11 = .ok (.ireturn, 1) := by decide +kernel
theorem dX6_found_12 : decode cX6_found 12 = .ok (.iload_n 1, 1) := by decide +kernel
theorem dX6_found_13 : decode cX6_found 13 = .ok (.iconst 1, 1) := by decide +kernel
theorem dX6_found_14 : decode cX6_found 14 = .ok (.if_icmp .lt 20, 3) := by decide +kernel
theorem dX6_found_17 : decode cX6_found 17 = .ok (.iload_n 1, 1) := by decide +kernel
theorem dX6_found_18 : decode cX6_found 18 = .ok (.iconst 4, 1) := by decide +kernel
theorem dX6_found_19 : decode cX6_found 19 = .ok (.if_icmp .gt 15, 3) := by decide +kernel
theorem dX6_found_22 : decode cX6_found 22 = .ok (.aload_n 0, 1) := by decide +kernel
theorem dX6_found_23 : decode cX6_found 23 = .ok (.getfield 12, 3) := by decide +kernel
theorem dX6_found_26 : decode cX6_found 26 = .ok (.getfield 180, 3) := by decide +kernel
theorem dX6_found_29 : decode cX6_found 29 = .ok (.iload_n 1, 1) := by decide +kernel
theorem dX6_found_30 : decode cX6_found 30 = .ok (.iaload, 1) := by decide +kernel
theorem dX6_found_31 : decode cX6_found 31 = .ok (.goto 4, 3) := by decide +kernel
theorem dX6_found_34 : decode cX6_found 34 = .ok (.iconst (-1), 1) := by decide +kernel
theorem dX6_found_35 : decode cX6_found 35 = .ok (.ireturn, 1) := by decide +kernel
theorem dX6_isKind_0 : decode cX6_isKind 0 = .ok (.iload_n 0, 1) := by decide +kernel
theorem dX6_isKind_1 : decode cX6_isKind 1 = .ok (.iconst 1, 1) := by decide +kernel
theorem dX6_isKind_2 : decode cX6_isKind 2 = .ok (.if_icmp .lt 13, 3) := by decide +kernel
theorem dX6_isKind_5 : decode cX6_isKind 5 = .ok (.iload_n 0, 1) := by decide +kernel
theorem dX6_isKind_6 : decode cX6_isKind 6 = .ok (.bipush 6, 2) := by decide +kernel
theorem dX6_isKind_8 : decode cX6_isKind 8 = .ok (.if_icmp .gt 7, 3) := by decide +kernel
theorem dX6_isKind_11 : decode cX6_isKind 11 = .ok (.iconst 1, 1) := by decide +kernel
theorem dX6_isKind_12 : decode cX6_isKind 12 = .ok (.goto 4, 3) := by decide +kernel
theorem dX6_isKind_15 : decode cX6_isKind 15 = .ok (.iconst 0, 1) := by decide +kernel
theorem dX6_isKind_16 : decode cX6_isKind 16 = .ok (.ireturn, 1) := by decide +kernel
theorem dX6_isName_0 : decode cX6_isName 0 = .ok (.iload_n 0, 1) := by decide +kernel
theorem dX6_isName_1 : decode cX6_isName 1 = .ok (.ifCond .lt 13, 3) := by decide +kernel
theorem dX6_isName_4 : decode cX6_isName 4 = .ok (.iload_n 0, 1) := by decide +kernel
theorem dX6_isName_5 : decode cX6_isName 5 = .ok (.bipush 40, 2) := by decide +kernel
theorem dX6_isName_7 : decode cX6_isName 7 = .ok (.if_icmp .ge 7, 3) := by decide +kernel
theorem dX6_isName_10 : decode cX6_isName 10 = .ok (.iconst 1, 1) := by decide +kernel
theorem dX6_isName_11 : decode cX6_isName 11 = .ok (.goto 4, 3) := by decide +kernel
theorem dX6_isName_14 : decode cX6_isName 14 = .ok (.iconst 0, 1) := by decide +kernel
theorem dX6_isName_15 : decode cX6_isName 15 = .ok (.ireturn, 1) := by decide +kernel
theorem dX6_isIn_0 : decode cX6_isIn 0 = .ok (.iload_n 0, 1) := by decide +kernel
theorem dX6_isIn_1 : decode cX6_isIn 1 = .ok (.iload_n 1, 1) := by decide +kernel
theorem dX6_isIn_2 : decode cX6_isIn 2 = .ok (.ishr, 1) := by decide +kernel
theorem dX6_isIn_3 : decode cX6_isIn 3 = .ok (.iconst 1, 1) := by decide +kernel
theorem dX6_isIn_4 : decode cX6_isIn 4 = .ok (.iand, 1) := by decide +kernel
theorem dX6_isIn_5 : decode cX6_isIn 5 = .ok (.ifCond .eq 7, 3) := by decide +kernel
theorem dX6_isIn_8 : decode cX6_isIn 8 = .ok (.iconst 1, 1) := by decide +kernel
theorem dX6_isIn_9 : decode cX6_isIn 9 = .ok (.goto 4, 3) := by decide +kernel
theorem dX6_isIn_12 : decode cX6_isIn 12 = .ok (.iconst 0, 1) := by decide +kernel
theorem dX6_isIn_13 : decode cX6_isIn 13 = .ok (.ireturn, 1) := by decide +kernel
theorem dX6_failureOf_0 : decode cX6_failureOf 0 = .ok (.new 43, 3) := by decide +kernel
theorem dX6_failureOf_3 : decode cX6_failureOf 3 = .ok (.dup, 1) := by decide +kernel
theorem dX6_failureOf_4 : decode cX6_failureOf 4 = .ok (.iload_n 0, 1) := by decide +kernel
theorem dX6_failureOf_5 : decode cX6_failureOf 5 = .ok (.iload_n 1, 1) := by decide +kernel
theorem dX6_failureOf_6 : decode cX6_failureOf 6 = .ok (.iconst 0, 1) := by decide +kernel
theorem dX6_failureOf_7 : decode cX6_failureOf 7 = .ok (.newarray .int, 2) := by decide +kernel
theorem dX6_failureOf_9 : decode cX6_failureOf 9 = .ok (.invokespecial 183, 3) := by decide +kernel
theorem dX6_failureOf_12 : decode cX6_failureOf 12 = .ok (.areturn, 1) := by decide +kernel
