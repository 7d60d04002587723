theorem dX5_init_0 : decode cX5_init 0 = .ok (.aload_n 0, 1) := by decide +kernel
theorem dX5_init_1 : decode cX5_init 1 = .ok (.invokespecial 3, 3) := by decide +kernel
theorem dX5_init_4 : decode cX5_init 4 = .ok (.aload_n 0, 1) := by decide +kernel
theorem dX5_init_5 : decode cX5_init 5 = .ok (.bipush 25, 2) := by decide +kernel
theorem dX5_init_7 : decode cX5_init 7 = .ok (.newarray .int, 2) := by decide +kernel
theorem dX5_init_9 : decode cX5_init 9 = .ok (.putfield 9, 3) := by decide +kernel
theorem dX5_init_12 : decode cX5_init 12 = .ok (.aload_n 0, 1) := by decide +kernel
theorem dX5_init_13 : decode cX5_init 13 = .ok (.bipush 25, 2) := by decide +kernel
theorem dX5_init_15 : decode cX5_init 15 = .ok (.anewarray 15, 3) := by decide +kernel
theorem dX5_init_18 : decode cX5_init 18 = .ok (.putfield 17, 3) := by decide +kernel
theorem dX5_init_21 : decode cX5_init 21 = .ok (.return_, 1) := by decide +kernel
theorem dX5_addRead_0 : decode cX5_addRead 0 = .ok (.aload_n 0, 1) := by decide +kernel
theorem dX5_addRead_1 : decode cX5_addRead 1 = .ok (.getfield 21, 3) := by decide +kernel
theorem dX5_addRead_4 : decode cX5_addRead 4 = .ok (.bipush 25, 2) := by decide +kernel
theorem dX5_addRead_6 : decode cX5_addRead 6 = .ok (.if_icmp .ge 33, 3) := by decide +kernel
theorem dX5_addRead_9 : decode cX5_addRead 9 = .ok (.aload_n 0, 1) := by decide +kernel
theorem dX5_addRead_10 : decode cX5_addRead 10 = .ok (.getfield 9, 3) := by decide +kernel
theorem dX5_addRead_13 : decode cX5_addRead 13 = .ok (.aload_n 0, 1) := by decide +kernel
theorem dX5_addRead_14 : decode cX5_addRead 14 = .ok (.getfield 21, 3) := by decide +kernel
theorem dX5_addRead_17 : decode cX5_addRead 17 = .ok (.iload_n 1, 1) := by decide +kernel
theorem dX5_addRead_18 : decode cX5_addRead 18 = .ok (.iastore, 1) := by decide +kernel
theorem dX5_addRead_19 : decode cX5_addRead 19 = .ok (.aload_n 0, 1) := by decide +kernel
theorem dX5_addRead_20 : decode cX5_addRead 20 = .ok (.getfield 17, 3) := by decide +kernel
theorem dX5_addRead_23 : decode cX5_addRead 23 = .ok (.aload_n 0, 1) := by decide +kernel
theorem dX5_addRead_24 : decode cX5_addRead 24 = .ok (.getfield 21, 3) := by decide +kernel
theorem dX5_addRead_27 : decode cX5_addRead 27 = .ok (.aload_n 2, 1) := by decide +kernel
theorem dX5_addRead_28 : decode cX5_addRead 28 = .ok (.aastore, 1) := by decide +kernel
theorem dX5_addRead_29 : decode cX5_addRead 29 = .ok (.aload_n 0, 1) := by decide +kernel
theorem dX5_addRead_30 : decode cX5_addRead 30 = .ok (.dup, 1) := by decide +kernel
theorem dX5_addRead_31 : decode cX5_addRead 31 = .ok (.getfield 21, 3) := by decide +kernel
theorem dX5_addRead_34 : decode cX5_addRead 34 = .ok (.iconst 1, 1) := by decide +kernel
theorem dX5_addRead_35 : decode cX5_addRead 35 = .ok (.iadd, 1) := by decide +kernel
theorem dX5_addRead_36 : decode cX5_addRead 36 = .ok (.putfield 21, 3) := by decide +kernel
theorem dX5_addRead_39 : decode cX5_addRead 39 = .ok (.return_, 1) := by decide +kernel
theorem dX5_nameAt_0 : decode cX5_nameAt 0 = .ok (.iload_n 1, 1) := by decide +kernel
theorem dX5_nameAt_1 : decode cX5_nameAt 1 = .ok (.ifCond .lt 20, 3) := by decide +kernel
theorem dX5_nameAt_4 : decode cX5_nameAt 4 = .ok (.iload_n 1, 1) := by decide +kernel
theorem dX5_nameAt_5 : decode cX5_nameAt 5 = .ok (.aload_n 0, 1) := by decide +kernel
theorem dX5_nameAt_6 : decode cX5_nameAt 6 = .ok (.getfield 21, 3) := by decide +kernel
theorem dX5_nameAt_9 : decode cX5_nameAt 9 = .ok (.if_icmp .ge 12, 3) := by decide +kernel
theorem dX5_nameAt_12 : decode cX5_nameAt 12 = .ok (.aload_n 0, 1) := by decide +kernel
theorem dX5_nameAt_13 : decode cX5_nameAt 13 = .ok (.getfield 9, 3) := by decide +kernel
theorem dX5_nameAt_16 : decode cX5_nameAt 16 = .ok (.iload_n 1, 1) := by decide +kernel
theorem dX5_nameAt_17 : decode cX5_nameAt 17 = .ok (.iaload, 1) := by decide +kernel
theorem dX5_nameAt_18 : decode cX5_nameAt 18 = .ok (.goto 4, 3) := by decide +kernel
theorem dX5_nameAt_21 : decode cX5_nameAt 21 = .ok (.iconst (-1), 1) := by decide +kernel
theorem dX5_nameAt_22 : decode cX5_nameAt 22 = .ok (.ireturn, 1) := by decide +kernel
theorem dX5_outcomeAt_0 : decode cX5_outcomeAt 0 = .ok (.iload_n 1, 1) := by decide +kernel
theorem dX5_outcomeAt_1 : decode cX5_outcomeAt 1 = .ok (.ifCond .lt 20, 3) := by decide +kernel
theorem dX5_outcomeAt_4 : decode cX5_outcomeAt 4 = .ok (.iload_n 1, 1) := by decide +kernel
theorem dX5_outcomeAt_5 : decode cX5_outcomeAt 5 = .ok (.aload_n 0, 1) := by decide +kernel
theorem dX5_outcomeAt_6 : decode cX5_outcomeAt 6 = .ok (.getfield 21, 3) := by decide +kernel
theorem dX5_outcomeAt_9 : decode cX5_outcomeAt 9 = .ok (.if_icmp .ge 12, 3) := by decide +kernel
theorem dX5_outcomeAt_12 : decode cX5_outcomeAt 12 = .ok (.aload_n 0, 1) := by decide +kernel
theorem dX5_outcomeAt_13 : decode cX5_outcomeAt 13 = .ok (.getfield 17, 3) := by decide +kernel
theorem dX5_outcomeAt_16 : decode cX5_outcomeAt 16 = .ok (.iload_n 1, 1) := by decide +kernel
theorem dX5_outcomeAt_17 : decode cX5_outcomeAt 17 = .ok (.aaload, 1) := by decide +kernel
theorem dX5_outcomeAt_18 : decode cX5_outcomeAt 18 = .ok (.goto 4, 3) := by decide +kernel
theorem dX5_outcomeAt_21 : decode cX5_outcomeAt 21 = .ok (.aconst_null, 1) := by decide +kernel
theorem dX5_outcomeAt_22 : decode cX5_outcomeAt 22 = .ok (.areturn, 1) := by decide +kernel
theorem dX5_lengthAt_0 : decode cX5_lengthAt 0 = .ok (.iload_n 1, 1) := by decide +kernel
theorem dX5_lengthAt_1 : decode cX5_lengthAt 1 = .ok (.ifCond .lt 20, 3) := by decide +kernel
theorem dX5_lengthAt_4 : decode cX5_lengthAt 4 = .ok (.iload_n 1, 1) := by decide +kernel
theorem dX5_lengthAt_5 : decode cX5_lengthAt 5 = .ok (.aload_n 0, 1) := by decide +kernel
theorem dX5_lengthAt_6 : decode cX5_lengthAt 6 = .ok (.getfield 21, 3) := by decide +kernel
theorem dX5_lengthAt_9 : decode cX5_lengthAt 9 = .ok (.if_icmp .ge 12, 3) := by decide +kernel
theorem dX5_lengthAt_12 : decode cX5_lengthAt 12 = .ok (.aload_n 0, 1) := by decide +kernel
theorem dX5_lengthAt_13 : decode cX5_lengthAt 13 = .ok (.getfield 17, 3) := by decide +kernel
theorem dX5_lengthAt_16 : decode cX5_lengthAt 16 = .ok (.iload_n 1, 1) := by decide +kernel
theorem dX5_lengthAt_17 : decode cX5_lengthAt 17 = .ok (.aaload, 1) := by decide +kernel
theorem dX5_lengthAt_18 : decode cX5_lengthAt 18 = .ok (.goto 4, 3) := by decide +kernel
theorem dX5_lengthAt_21 : decode cX5_lengthAt 21 = .ok (.aconst_null, 1) := by decide +kernel
theorem dX5_lengthAt_22 : decode cX5_lengthAt 22 = .ok (.astore_n 2, 1) := by decide +kernel
theorem dX5_lengthAt_23 : decode cX5_lengthAt 23 = .ok (.aload_n 2, 1) := by decide +kernel
theorem dX5_lengthAt_24 : decode cX5_lengthAt 24 = .ok (.ifnonnull 7, 3) := by decide +kernel
theorem dX5_lengthAt_27 : decode cX5_lengthAt 27 = .ok (.iconst 0, 1) := by decide +kernel
theorem dX5_lengthAt_28 : decode cX5_lengthAt 28 = .ok (.goto 8, 3) := by decide +kernel
theorem dX5_lengthAt_31 : decode cX5_lengthAt 31 = .ok (.aload_n 2, 1) := by decide +kernel
theorem dX5_lengthAt_32 : decode cX5_lengthAt 32 = .ok (.getfield 25, 3) := by decide +kernel
theorem dX5_lengthAt_35 : decode cX5_lengthAt 35 = .ok (.arraylength, 1) := by decide +kernel
theorem dX5_lengthAt_36 : decode cX5_lengthAt 36 = .ok (.ireturn, 1) := by decide +kernel
theorem dX5_joinedFrom_0 : decode cX5_joinedFrom 0 = .ok (.iconst 0, 1) := by decide +kernel
theorem dX5_joinedFrom_1 : decode cX5_joinedFrom 1 = .ok (.istore_n 2, 1) := by decide +kernel
theorem dX5_joinedFrom_2 : decode cX5_joinedFrom 2 = .ok (.iload_n 1, 1) := by decide +kernel
theorem dX5_joinedFrom_3 : decode cX5_joinedFrom 3 = .ok (.istore_n 3, 1) := by decide +kernel
theorem dX5_joinedFrom_4 : decode cX5_joinedFrom 4 = .ok (.iload_n 3, 1) := by decide +kernel
theorem dX5_joinedFrom_5 : decode cX5_joinedFrom 5 = .ok (.aload_n 0, 1) := by decide +kernel
theorem dX5_joinedFrom_6 : decode cX5_joinedFrom 6 = .ok (.getfield 21, 3) := by decide +kernel
theorem dX5_joinedFrom_9 : decode cX5_joinedFrom 9 = .ok (.if_icmp .ge 17, 3) := by decide +kernel
theorem dX5_joinedFrom_12 : decode cX5_joinedFrom 12 = .ok (.iload_n 2, 1) := by decide +kernel
theorem dX5_joinedFrom_13 : decode cX5_joinedFrom 13 = .ok (.aload_n 0, 1) := by decide +kernel
theorem dX5_joinedFrom_14 : decode cX5_joinedFrom 14 = .ok (.iload_n 3, 1) := by decide +kernel
theorem dX5_joinedFrom_15 : decode cX5_joinedFrom 15 = .ok (.invokevirtual 28, 3) := by decide +kernel
theorem dX5_joinedFrom_18 : decode cX5_joinedFrom 18 = .ok (.iadd, 1) := by decide +kernel
theorem dX5_joinedFrom_19 : decode cX5_joinedFrom 19 = .ok (.istore_n 2, 1) := by decide +kernel
theorem dX5_joinedFrom_20 : decode cX5_joinedFrom 20 = .ok (.iinc 3 1, 3) := by decide +kernel
theorem dX5_joinedFrom_23 : decode cX5_joinedFrom 23 = .ok (.goto (-19), 3) := by decide +kernel
theorem dX5_joinedFrom_26 : decode cX5_joinedFrom 26 = .ok (.iload_n 2, 1) := by decide +kernel
theorem dX5_joinedFrom_27 : decode cX5_joinedFrom 27 = .ok (.newarray .int, 2) := by decide +kernel
theorem dX5_joinedFrom_29 : decode cX5_joinedFrom 29 = .ok (.astore_n 3, 1) := by decide +kernel
theorem dX5_joinedFrom_30 : decode cX5_joinedFrom 30 = .ok (.iconst 0, 1) := by decide +kernel
theorem dX5_joinedFrom_31 : decode cX5_joinedFrom 31 = .ok (.istore 4, 2) := by decide +kernel
theorem dX5_joinedFrom_33 : decode cX5_joinedFrom 33 = .ok (.iload_n 1, 1) := by decide +kernel
theorem dX5_joinedFrom_34 : decode cX5_joinedFrom 34 = .ok (.istore 5, 2) := by decide +kernel
theorem dX5_joinedFrom_36 : decode cX5_joinedFrom 36 = .ok (.iload 5, 2) := by decide +kernel
theorem dX5_joinedFrom_38 : decode cX5_joinedFrom 38 = .ok (.aload_n 0, 1) := by decide +kernel
theorem dX5_joinedFrom_39 : decode cX5_joinedFrom 39 = .ok (.getfield 21, 3) := by decide +kernel
theorem dX5_joinedFrom_42 : decode cX5_joinedFrom 42 = .ok (.if_icmp .ge 52, 3) := by decide +kernel
theorem dX5_joinedFrom_45 : decode cX5_joinedFrom 45 = .ok (.aload_n 0, 1) := by decide +kernel
theorem dX5_joinedFrom_46 : decode cX5_joinedFrom 46 = .ok (.getfield 17, 3) := by decide +kernel
theorem dX5_joinedFrom_49 : decode cX5_joinedFrom 49 = .ok (.iload 5, 2) := by decide +kernel
theorem dX5_joinedFrom_51 : decode cX5_joinedFrom 51 = .ok (.aaload, 1) := by decide +kernel
theorem dX5_joinedFrom_52 : decode cX5_joinedFrom 52 = .ok (.astore 6, 2) := by decide +kernel
theorem dX5_joinedFrom_54 : decode cX5_joinedFrom 54 = .ok (.aload 6, 2) := by decide +kernel
theorem dX5_joinedFrom_56 : decode cX5_joinedFrom 56 = .ok (.ifnull 32, 3) := by decide +kernel
theorem dX5_joinedFrom_59 : decode cX5_joinedFrom 59 = .ok (.aload 6, 2) := by decide +kernel
theorem dX5_joinedFrom_61 : decode cX5_joinedFrom 61 = .ok (.getfield 25, 3) := by decide +kernel
theorem dX5_joinedFrom_64 : decode cX5_joinedFrom 64 = .ok (.iconst 0, 1) := by decide +kernel
theorem dX5_joinedFrom_65 : decode cX5_joinedFrom 65 = .ok (.aload_n 3, 1) := by decide +kernel
theorem dX5_joinedFrom_66 : decode cX5_joinedFrom 66 = .ok (.iload 4, 2) := by decide +kernel
theorem dX5_joinedFrom_68 : decode cX5_joinedFrom 68 = .ok (.aload 6, 2) := by decide +kernel
theorem dX5_joinedFrom_70 : decode cX5_joinedFrom 70 = .ok (.getfield 25, 3) := by decide +kernel
theorem dX5_joinedFrom_73 : decode cX5_joinedFrom 73 = .ok (.arraylength, 1) := by decide +kernel
theorem dX5_joinedFrom_74 : decode cX5_joinedFrom 74 = .ok (.invokestatic 32, 3) := by decide +kernel
theorem dX5_joinedFrom_77 : decode cX5_joinedFrom 77 = .ok (.iload 4, 2) := by decide +kernel
theorem dX5_joinedFrom_79 : decode cX5_joinedFrom 79 = .ok (.aload 6, 2) := by decide +kernel
theorem dX5_joinedFrom_81 : decode cX5_joinedFrom 81 = .ok (.getfield 25, 3) := by decide +kernel
theorem dX5_joinedFrom_84 : decode cX5_joinedFrom 84 = .ok (.arraylength, 1) := by decide +kernel
theorem dX5_joinedFrom_85 : decode cX5_joinedFrom 85 = .ok (.iadd, 1) := by decide +kernel
theorem dX5_joinedFrom_86 : decode cX5_joinedFrom 86 = .ok (.istore 4, 2) := by decide +kernel
theorem dX5_joinedFrom_88 : decode cX5_joinedFrom 88 = .ok (.iinc 5 1, 3) := by decide +kernel
theorem dX5_joinedFrom_91 : decode cX5_joinedFrom 91 = .ok (.goto (-55), 3) := by decide +kernel
theorem dX5_joinedFrom_94 : decode cX5_joinedFrom 94 = .ok (.aload_n 3, 1) := by decide +kernel
theorem dX5_joinedFrom_95 : decode cX5_joinedFrom 95 = .ok (.areturn, 1) := by decide +kernel
theorem dX5_sum_0 : decode cX5_sum 0 = .ok (.iconst 0, 1) := by decide +kernel
theorem dX5_sum_1 : decode cX5_sum 1 = .ok (.istore_n 1, 1) := by decide +kernel
theorem dX5_sum_2 : decode cX5_sum 2 = .ok (.iconst 0, 1) := by decide +kernel
theorem dX5_sum_3 : decode cX5_sum 3 = .ok (.istore_n 2, 1) := by decide +kernel
theorem dX5_sum_4 : decode cX5_sum 4 = .ok (.iload_n 2, 1) := by decide +kernel
theorem dX5_sum_5 : decode cX5_sum 5 = .ok (.aload_n 0, 1) := by decide +kernel
theorem dX5_sum_6 : decode cX5_sum 6 = .ok (.getfield 21, 3) := by decide +kernel
theorem dX5_sum_9 : decode cX5_sum 9 = .ok (.if_icmp .ge 49, 3) := by decide +kernel
theorem dX5_sum_12 : decode cX5_sum 12 = .ok (.aload_n 0, 1) := by decide +kernel
theorem dX5_sum_13 : decode cX5_sum 13 = .ok (.getfield 17, 3) := by decide +kernel
theorem dX5_sum_16 : decode cX5_sum 16 = .ok (.iload_n 2, 1) := by decide +kernel
theorem dX5_sum_17 : decode cX5_sum 17 = .ok (.aaload, 1) := by decide +kernel
theorem dX5_sum_18 : decode cX5_sum 18 = .ok (.astore_n 3, 1) := by decide +kernel
theorem dX5_sum_19 : decode cX5_sum 19 = .ok (.iconst 0, 1) := by decide +kernel
theorem dX5_sum_20 : decode cX5_sum 20 = .ok (.istore 4, 2) := by decide +kernel
theorem dX5_sum_22 : decode cX5_sum 22 = .ok (.aload_n 3, 1) := by decide +kernel
theorem dX5_sum_23 : decode cX5_sum 23 = .ok (.ifnull 29, 3) := by decide +kernel
theorem dX5_sum_26 : decode cX5_sum 26 = .ok (.iload 4, 2) := by decide +kernel
theorem dX5_sum_28 : decode cX5_sum 28 = .ok (.aload_n 3, 1) := by decide +kernel
theorem dX5_sum_29 : decode cX5_sum 29 = .ok (.getfield 25, 3) := by decide +kernel
theorem dX5_sum_32 : decode cX5_sum 32 = .ok (.arraylength, 1) := by decide +kernel
theorem dX5_sum_33 : decode cX5_sum 33 = .ok (.if_icmp .ge 19, 3) := by decide +kernel
theorem dX5_sum_36 : decode cX5_sum 36 = .ok (.iload_n 1, 1) := by decide +kernel
theorem dX5_sum_37 : decode cX5_sum 37 = .ok (.aload_n 3, 1) := by decide +kernel
theorem dX5_sum_38 : decode cX5_sum 38 = .ok (.getfield 25, 3) := by decide +kernel
theorem dX5_sum_41 : decode cX5_sum 41 = .ok (.iload 4, 2) := by decide +kernel
theorem dX5_sum_43 : decode cX5_sum 43 = .ok (.iaload, 1) := by decide +kernel
theorem dX5_sum_44 : decode cX5_sum 44 = .ok (.iadd, 1) := by decide +kernel
theorem dX5_sum_45 : decode cX5_sum 45 = .ok (.istore_n 1, 1) := by decide +kernel
theorem dX5_sum_46 : decode cX5_sum 46 = .ok (.iinc 4 1, 3) := by decide +kernel
theorem dX5_sum_49 : decode cX5_sum 49 = .ok (.goto (-27), 3) := by decide +kernel
theorem dX5_sum_52 : decode cX5_sum 52 = .ok (.iinc 2 1, 3) := by decide +kernel
theorem dX5_sum_55 : decode cX5_sum 55 = .ok (.goto (-51), 3) := by decide +kernel
theorem dX5_sum_58 : decode cX5_sum 58 = .ok (.iload_n 1, 1) := by decide +kernel
theorem dX5_sum_59 : decode cX5_sum 59 = .ok (.ireturn, 1) := by decide +kernel
