theorem dX4_init_0 : decode cX4_init 0 = .ok (.aload_n 0, 1) := by decide +kernel
theorem dX4_init_1 : decode cX4_init 1 = .ok (.invokespecial 3, 3) := by decide +kernel
theorem dX4_init_4 : decode cX4_init 4 = .ok (.aload_n 0, 1) := by decide +kernel
theorem dX4_init_5 : decode cX4_init 5 = .ok (.bipush 16, 2) := by decide +kernel
theorem dX4_init_7 : decode cX4_init 7 = .ok (.anewarray 9, 3) := by decide +kernel
theorem dX4_init_10 : decode cX4_init 10 = .ok (.putfield 11, 3) := by decide +kernel
theorem dX4_init_13 : decode cX4_init 13 = .ok (.aload_n 0, 1) := by decide +kernel
theorem dX4_init_14 : decode cX4_init 14 = .ok (.bipush 24, 2) := by decide +kernel
theorem dX4_init_16 : decode cX4_init 16 = .ok (.anewarray 17, 3) := by decide +kernel
theorem dX4_init_19 : decode cX4_init 19 = .ok (.putfield 19, 3) := by decide +kernel
theorem dX4_init_22 : decode cX4_init 22 = .ok (.aload_n 0, 1) := by decide +kernel
theorem dX4_init_23 : decode cX4_init 23 = .ok (.bipush 24, 2) := by decide +kernel
theorem dX4_init_25 : decode cX4_init 25 = .ok (.anewarray 9, 3) := by decide +kernel
theorem dX4_init_28 : decode cX4_init 28 = .ok (.putfield 23, 3) := by decide +kernel
theorem dX4_init_31 : decode cX4_init 31 = .ok (.iconst 0, 1) := by decide +kernel
theorem dX4_init_32 : decode cX4_init 32 = .ok (.istore_n 1, 1) := by decide +kernel
theorem dX4_init_33 : decode cX4_init 33 = .ok (.iload_n 1, 1) := by decide +kernel
theorem dX4_init_34 : decode cX4_init 34 = .ok (.bipush 16, 2) := by decide +kernel
theorem dX4_init_36 : decode cX4_init 36 = .ok (.if_icmp .ge 20, 3) := by decide +kernel
theorem dX4_init_39 : decode cX4_init 39 = .ok (.aload_n 0, 1) := by decide +kernel
theorem dX4_init_40 : decode cX4_init 40 = .ok (.getfield 11, 3) := by decide +kernel
theorem dX4_init_43 : decode cX4_init 43 = .ok (.iload_n 1, 1) := by decide +kernel
theorem dX4_init_44 : decode cX4_init 44 = .ok (.iconst 1, 1) := by decide +kernel
theorem dX4_init_45 : decode cX4_init 45 = .ok (.iload_n 1, 1) := by decide +kernel
theorem dX4_init_46 : decode cX4_init 46 = .ok (.invokestatic 26, 3) := by decide +kernel
theorem dX4_init_49 : decode cX4_init 49 = .ok (.aastore, 1) := by decide +kernel
theorem dX4_init_50 : decode cX4_init 50 = .ok (.iinc 1 1, 3) := by decide +kernel
theorem dX4_init_53 : decode cX4_init 53 = .ok (.goto (-20), 3) := by decide +kernel
theorem dX4_init_56 : decode cX4_init 56 = .ok (.iconst 0, 1) := by decide +kernel
theorem dX4_init_57 : decode cX4_init 57 = .ok (.istore_n 1, 1) := by decide +kernel
theorem dX4_init_58 : decode cX4_init 58 = .ok (.iload_n 1, 1) := by decide +kernel
theorem dX4_init_59 : decode cX4_init 59 = .ok (.bipush 24, 2) := by decide +kernel
theorem dX4_init_61 : decode cX4_init 61 = .ok (.if_icmp .ge 23, 3) := by decide +kernel
theorem dX4_init_64 : decode cX4_init 64 = .ok (.aload_n 0, 1) := by decide +kernel
theorem dX4_init_65 : decode cX4_init 65 = .ok (.getfield 23, 3) := by decide +kernel
theorem dX4_init_68 : decode cX4_init 68 = .ok (.iload_n 1, 1) := by decide +kernel
theorem dX4_init_69 : decode cX4_init 69 = .ok (.iconst 4, 1) := by decide +kernel
theorem dX4_init_70 : decode cX4_init 70 = .ok (.bipush 16, 2) := by decide +kernel
theorem dX4_init_72 : decode cX4_init 72 = .ok (.iload_n 1, 1) := by decide +kernel
theorem dX4_init_73 : decode cX4_init 73 = .ok (.iadd, 1) := by decide +kernel
theorem dX4_init_74 : decode cX4_init 74 = .ok (.invokestatic 26, 3) := by decide +kernel
theorem dX4_init_77 : decode cX4_init 77 = .ok (.aastore, 1) := by decide +kernel
theorem dX4_init_78 : decode cX4_init 78 = .ok (.iinc 1 1, 3) := by decide +kernel
theorem dX4_init_81 : decode cX4_init 81 = .ok (.goto (-23), 3) := by decide +kernel
theorem dX4_init_84 : decode cX4_init 84 = .ok (.return_, 1) := by decide +kernel
theorem dX4_sourceAt_0 : decode cX4_sourceAt 0 = .ok (.iload_n 1, 1) := by decide +kernel
theorem dX4_sourceAt_1 : decode cX4_sourceAt 1 = .ok (.ifCond .lt 18, 3) := by decide +kernel
theorem dX4_sourceAt_4 : decode cX4_sourceAt 4 = .ok (.iload_n 1, 1) := by decide +kernel
theorem dX4_sourceAt_5 : decode cX4_sourceAt 5 = .ok (.bipush 16, 2) := by decide +kernel
theorem dX4_sourceAt_7 : decode cX4_sourceAt 7 = .ok (.if_icmp .ge 12, 3) := by decide +kernel
theorem dX4_sourceAt_10 : decode cX4_sourceAt 10 = .ok (.aload_n 0, 1) := by decide +kernel
theorem dX4_sourceAt_11 : decode cX4_sourceAt 11 = .ok (.getfield 11, 3) := by decide +kernel
theorem dX4_sourceAt_14 : decode cX4_sourceAt 14 = .ok (.iload_n 1, 1) := by decide +kernel
theorem dX4_sourceAt_15 : decode cX4_sourceAt 15 = .ok (.aaload, 1) := by decide +kernel
theorem dX4_sourceAt_16 : decode cX4_sourceAt 16 = .ok (.goto 4, 3) := by decide +kernel
theorem dX4_sourceAt_19 : decode cX4_sourceAt 19 = .ok (.aconst_null, 1) := by decide +kernel
theorem dX4_sourceAt_20 : decode cX4_sourceAt 20 = .ok (.areturn, 1) := by decide +kernel
theorem dX4_putRow_0 : decode cX4_putRow 0 = .ok (.aload_n 0, 1) := by decide +kernel
theorem dX4_putRow_1 : decode cX4_putRow 1 = .ok (.getfield 11, 3) := by decide +kernel
theorem dX4_putRow_4 : decode cX4_putRow 4 = .ok (.iload_n 1, 1) := by decide +kernel
theorem dX4_putRow_5 : decode cX4_putRow 5 = .ok (.new 9, 3) := by decide +kernel
theorem dX4_putRow_8 : decode cX4_putRow 8 = .ok (.dup, 1) := by decide +kernel
theorem dX4_putRow_9 : decode cX4_putRow 9 = .ok (.iconst 0, 1) := by decide +kernel
theorem dX4_putRow_10 : decode cX4_putRow 10 = .ok (.iconst 0, 1) := by decide +kernel
theorem dX4_putRow_11 : decode cX4_putRow 11 = .ok (.aload_n 2, 1) := by decide +kernel
theorem dX4_putRow_12 : decode cX4_putRow 12 = .ok (.invokespecial 30, 3) := by decide +kernel
theorem dX4_putRow_15 : decode cX4_putRow 15 = .ok (.aastore, 1) := by decide +kernel
theorem dX4_putRow_16 : decode cX4_putRow 16 = .ok (.return_, 1) := by decide +kernel
theorem dX4_ruleAt_0 : decode cX4_ruleAt 0 = .ok (.iload_n 1, 1) := by decide +kernel
theorem dX4_ruleAt_1 : decode cX4_ruleAt 1 = .ok (.ifCond .lt 20, 3) := by decide +kernel
theorem dX4_ruleAt_4 : decode cX4_ruleAt 4 = .ok (.iload_n 1, 1) := by decide +kernel
theorem dX4_ruleAt_5 : decode cX4_ruleAt 5 = .ok (.aload_n 0, 1) := by decide +kernel
theorem dX4_ruleAt_6 : decode cX4_ruleAt 6 = .ok (.getfield 33, 3) := by decide +kernel
theorem dX4_ruleAt_9 : decode cX4_ruleAt 9 = .ok (.if_icmp .ge 12, 3) := by decide +kernel
theorem dX4_ruleAt_12 : decode cX4_ruleAt 12 = .ok (.aload_n 0, 1) := by decide +kernel
theorem dX4_ruleAt_13 : decode cX4_ruleAt 13 = .ok (.getfield 19, 3) := by decide +kernel
theorem dX4_ruleAt_16 : decode cX4_ruleAt 16 = .ok (.iload_n 1, 1) := by decide +kernel
theorem dX4_ruleAt_17 : decode cX4_ruleAt 17 = .ok (.aaload, 1) := by decide +kernel
theorem dX4_ruleAt_18 : decode cX4_ruleAt 18 = .ok (.goto 4, 3) := by decide +kernel
theorem dX4_ruleAt_21 : decode cX4_ruleAt 21 = .ok (.aconst_null, 1) := by decide +kernel
theorem dX4_ruleAt_22 : decode cX4_ruleAt 22 = .ok (.areturn, 1) := by decide +kernel
theorem dX4_addRule_0 : decode cX4_addRule 0 = .ok (.aload_n 0, 1) := by decide +kernel
theorem dX4_addRule_1 : decode cX4_addRule 1 = .ok (.getfield 33, 3) := by decide +kernel
theorem dX4_addRule_4 : decode cX4_addRule 4 = .ok (.istore_n 3, 1) := by decide +kernel
theorem dX4_addRule_5 : decode cX4_addRule 5 = .ok (.aload_n 0, 1) := by decide +kernel
theorem dX4_addRule_6 : decode cX4_addRule 6 = .ok (.getfield 19, 3) := by decide +kernel
theorem dX4_addRule_9 : decode cX4_addRule 9 = .ok (.iload_n 3, 1) := by decide +kernel
theorem dX4_addRule_10 : decode cX4_addRule 10 = .ok (.new 17, 3) := by decide +kernel
theorem dX4_addRule_13 : decode cX4_addRule 13 = .ok (.dup, 1) := by decide +kernel
theorem dX4_addRule_14 : decode cX4_addRule 14 = .ok (.iload_n 3, 1) := by decide +kernel
theorem dX4_addRule_15 : decode cX4_addRule 15 = .ok (.iload_n 1, 1) := by decide +kernel
theorem dX4_addRule_16 : decode cX4_addRule 16 = .ok (.iload_n 2, 1) := by decide +kernel
theorem dX4_addRule_17 : decode cX4_addRule 17 = .ok (.invokespecial 37, 3) := by decide +kernel
theorem dX4_addRule_20 : decode cX4_addRule 20 = .ok (.aastore, 1) := by decide +kernel
theorem dX4_addRule_21 : decode cX4_addRule 21 = .ok (.aload_n 0, 1) := by decide +kernel
theorem dX4_addRule_22 : decode cX4_addRule 22 = .ok (.dup, 1) := by decide +kernel
theorem dX4_addRule_23 : decode cX4_addRule 23 = .ok (.getfield 33, 3) := by decide +kernel
theorem dX4_addRule_26 : decode cX4_addRule 26 = .ok (.iconst 1, 1) := by decide +kernel
theorem dX4_addRule_27 : decode cX4_addRule 27 = .ok (.iadd, 1) := by decide +kernel
theorem dX4_addRule_28 : decode cX4_addRule 28 = .ok (.putfield 33, 3) := by decide +kernel
theorem dX4_addRule_31 : decode cX4_addRule 31 = .ok (.iload_n 3, 1) := by decide +kernel
theorem dX4_addRule_32 : decode cX4_addRule 32 = .ok (.ireturn, 1) := by decide +kernel
theorem dX4_keptTraces_0 : decode cX4_keptTraces 0 = .ok (.iconst 0, 1) := by decide +kernel
theorem dX4_keptTraces_1 : decode cX4_keptTraces 1 = .ok (.istore_n 1, 1) := by decide +kernel
theorem dX4_keptTraces_2 : decode cX4_keptTraces 2 = .ok (.aload_n 0, 1) := by decide +kernel
theorem dX4_keptTraces_3 : decode cX4_keptTraces 3 = .ok (.getfield 19, 3) := by decide +kernel
theorem dX4_keptTraces_6 : decode cX4_keptTraces 6 = .ok (.astore_n 2, 1) := by decide +kernel
theorem dX4_keptTraces_7 : decode cX4_keptTraces 7 = .ok (.aload_n 2, 1) := by decide +kernel
theorem dX4_keptTraces_8 : decode cX4_keptTraces 8 = .ok (.arraylength, 1) := by decide +kernel
theorem dX4_keptTraces_9 : decode cX4_keptTraces 9 = .ok (.istore_n 3, 1) := by decide +kernel
theorem dX4_keptTraces_10 : decode cX4_keptTraces 10 = .ok (.iconst 0, 1) := by decide +kernel
theorem dX4_keptTraces_11 : decode cX4_keptTraces 11 = .ok (.istore 4, 2) := by decide +kernel
theorem dX4_keptTraces_13 : decode cX4_keptTraces 13 = .ok (.iload 4, 2) := by decide +kernel
theorem dX4_keptTraces_15 : decode cX4_keptTraces 15 = .ok (.iload_n 3, 1) := by decide +kernel
theorem dX4_keptTraces_16 : decode cX4_keptTraces 16 = .ok (.if_icmp .ge 32, 3) := by decide +kernel
theorem dX4_keptTraces_19 : decode cX4_keptTraces 19 = .ok (.aload_n 2, 1) := by decide +kernel
theorem dX4_keptTraces_20 : decode cX4_keptTraces 20 = .ok (.iload 4, 2) := by decide +kernel
theorem dX4_keptTraces_22 : decode cX4_keptTraces 22 = .ok (.aaload, 1) := by decide +kernel
theorem dX4_keptTraces_23 : decode cX4_keptTraces 23 = .ok (.astore 5, 2) := by decide +kernel
theorem dX4_keptTraces_25 : decode cX4_keptTraces 25 = .ok (.iload_n 1, 1) := by decide +kernel
theorem dX4_keptTraces_26 : decode cX4_keptTraces 26 = .ok (.aload 5, 2) := by decide +kernel
theorem dX4_keptTraces_28 : decode cX4_keptTraces 28 = .ok (.ifnonnull 7, 3) := by decide +kernel
theorem dX4_keptTraces_31 : decode cX4_keptTraces 31 = .ok (.iconst 0, 1) := by decide +kernel
theorem dX4_keptTraces_32 : decode cX4_keptTraces 32 = .ok (.goto 8, 3) := by decide +kernel
theorem dX4_keptTraces_35 : decode cX4_keptTraces 35 = .ok (.aload 5, 2) := by decide +kernel
theorem dX4_keptTraces_37 : decode cX4_keptTraces 37 = .ok (.getfield 40, 3) := by decide +kernel
theorem dX4_keptTraces_40 : decode cX4_keptTraces 40 = .ok (.iadd, 1) := by decide +kernel
theorem dX4_keptTraces_41 : decode cX4_keptTraces 41 = .ok (.istore_n 1, 1) := by decide +kernel
theorem dX4_keptTraces_42 : decode cX4_keptTraces 42 = .ok (.iinc 4 1, 3) := by decide +kernel
theorem dX4_keptTraces_45 : decode cX4_keptTraces 45 = .ok (.goto (-32), 3) := by decide +kernel
theorem dX4_keptTraces_48 : decode cX4_keptTraces 48 = .ok (.iload_n 1, 1) := by decide +kernel
theorem dX4_keptTraces_49 : decode cX4_keptTraces 49 = .ok (.ireturn, 1) := by decide +kernel
