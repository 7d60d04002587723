theorem dX1_init_0 : decode cX1_init 0 = .ok (.aload_n 0, 1) := by decide +kernel
theorem dX1_init_1 : decode cX1_init 1 = .ok (.invokespecial 3, 3) := by decide +kernel
theorem dX1_init_4 : decode cX1_init 4 = .ok (.aload_n 0, 1) := by decide +kernel
theorem dX1_init_5 : decode cX1_init 5 = .ok (.iload_n 1, 1) := by decide +kernel
theorem dX1_init_6 : decode cX1_init 6 = .ok (.putfield 9, 3) := by decide +kernel
theorem dX1_init_9 : decode cX1_init 9 = .ok (.aload_n 0, 1) := by decide +kernel
theorem dX1_init_10 : decode cX1_init 10 = .ok (.iload_n 2, 1) := by decide +kernel
theorem dX1_init_11 : decode cX1_init 11 = .ok (.putfield 15, 3) := by decide +kernel
theorem dX1_init_14 : decode cX1_init 14 = .ok (.aload_n 0, 1) := by decide +kernel
theorem dX1_init_15 : decode cX1_init 15 = .ok (.aload_n 3, 1) := by decide +kernel
theorem dX1_init_16 : decode cX1_init 16 = .ok (.putfield 18, 3) := by decide +kernel
theorem dX1_init_19 : decode cX1_init 19 = .ok (.return_, 1) := by decide +kernel
theorem dX1_isFailure_0 : decode cX1_isFailure 0 = .ok (.aload_n 0, 1) := by decide +kernel
theorem dX1_isFailure_1 : decode cX1_isFailure 1 = .ok (.getfield 9, 3) := by decide +kernel
theorem dX1_isFailure_4 : decode cX1_isFailure 4 = .ok (.ifCond .eq 7, 3) := by decide +kernel
theorem dX1_isFailure_7 : decode cX1_isFailure 7 = .ok (.iconst 1, 1) := by decide +kernel
theorem dX1_isFailure_8 : decode cX1_isFailure 8 = .ok (.goto 4, 3) := by decide +kernel
theorem dX1_isFailure_11 : decode cX1_isFailure 11 = .ok (.iconst 0, 1) := by decide +kernel
theorem dX1_isFailure_12 : decode cX1_isFailure 12 = .ok (.ireturn, 1) := by decide +kernel
theorem dX1_hasInt_0 : decode cX1_hasInt 0 = .ok (.iload_n 1, 1) := by decide +kernel
theorem dX1_hasInt_1 : decode cX1_hasInt 1 = .ok (.ifCond .lt 16, 3) := by decide +kernel
theorem dX1_hasInt_4 : decode cX1_hasInt 4 = .ok (.iload_n 1, 1) := by decide +kernel
theorem dX1_hasInt_5 : decode cX1_hasInt 5 = .ok (.aload_n 0, 1) := by decide +kernel
theorem dX1_hasInt_6 : decode cX1_hasInt 6 = .ok (.getfield 18, 3) := by decide +kernel
theorem dX1_hasInt_9 : decode cX1_hasInt 9 = .ok (.arraylength, 1) := by decide +kernel
theorem dX1_hasInt_10 : decode cX1_hasInt 10 = .ok (.if_icmp .ge 7, 3) := by decide +kernel
theorem dX1_hasInt_13 : decode cX1_hasInt 13 = .ok (.iconst 1, 1) := by decide +kernel
theorem dX1_hasInt_14 : decode cX1_hasInt 14 = .ok (.goto 4, 3) := by decide +kernel
theorem dX1_hasInt_17 : decode cX1_hasInt 17 = .ok (.iconst 0, 1) := by decide +kernel
theorem dX1_hasInt_18 : decode cX1_hasInt 18 = .ok (.ireturn, 1) := by decide +kernel
theorem dX1_intAt_0 : decode cX1_intAt 0 = .ok (.aload_n 0, 1) := by decide +kernel
theorem dX1_intAt_1 : decode cX1_intAt 1 = .ok (.iload_n 1, 1) := by decide +kernel
theorem dX1_intAt_2 : decode cX1_intAt 2 = .ok (.invokevirtual 22, 3) := by decide +kernel
theorem dX1_intAt_5 : decode cX1_intAt 5 = .ok (.ifCond .eq 12, 3) := by decide +kernel
theorem dX1_intAt_8 : decode cX1_intAt 8 = .ok (.aload_n 0, 1) := by decide +kernel
theorem dX1_intAt_9 : decode cX1_intAt 9 = .ok (.getfield 18, 3) := by decide +kernel
theorem dX1_intAt_12 : decode cX1_intAt 12 = .ok (.iload_n 1, 1) := by decide +kernel
theorem dX1_intAt_13 : decode cX1_intAt 13 = .ok (.iaload, 1) := by decide +kernel
theorem dX1_intAt_14 : decode cX1_intAt 14 = .ok (.goto 4, 3) := by decide +kernel
theorem dX1_intAt_17 : decode cX1_intAt 17 = .ok (.iconst 0, 1) := by decide +kernel
theorem dX1_intAt_18 : decode cX1_intAt 18 = .ok (.ireturn, 1) := by decide +kernel
theorem dX1_hasStretch_0 : decode cX1_hasStretch 0 = .ok (.iload_n 1, 1) := by decide +kernel
theorem dX1_hasStretch_1 : decode cX1_hasStretch 1 = .ok (.ifCond .lt 31, 3) := by decide +kernel
theorem dX1_hasStretch_4 : decode cX1_hasStretch 4 = .ok (.iload_n 2, 1) := by decide +kernel
theorem dX1_hasStretch_5 : decode cX1_hasStretch 5 = .ok (.ifCond .lt 27, 3) := by decide +kernel
theorem dX1_hasStretch_8 : decode cX1_hasStretch 8 = .ok (.iload_n 1, 1) := by decide +kernel
theorem dX1_hasStretch_9 : decode cX1_hasStretch 9 = .ok (.aload_n 0, 1) := by decide +kernel
theorem dX1_hasStretch_10 : decode cX1_hasStretch 10 = .ok (.getfield 18, 3) := by decide +kernel
theorem dX1_hasStretch_13 : decode cX1_hasStretch 13 = .ok (.arraylength, 1) := by decide +kernel
theorem dX1_hasStretch_14 : decode cX1_hasStretch 14 = .ok (.if_icmp .gt 18, 3) := by decide +kernel
theorem dX1_hasStretch_17 : decode cX1_hasStretch 17 = .ok (.iload_n 2, 1) := by decide +kernel
theorem dX1_hasStretch_18 : decode cX1_hasStretch 18 = .ok (.aload_n 0, 1) := by decide +kernel
theorem dX1_hasStretch_19 : decode cX1_hasStretch 19 = .ok (.getfield 18, 3) := by decide +kernel
theorem dX1_hasStretch_22 : decode cX1_hasStretch 22 = .ok (.arraylength, 1) := by decide +kernel
theorem dX1_hasStretch_23 : decode cX1_hasStretch 23 = .ok (.iload_n 1, 1) := by decide +kernel
theorem dX1_hasStretch_24 : decode cX1_hasStretch 24 = .ok (.isub, 1) := by decide +kernel
theorem dX1_hasStretch_25 : decode cX1_hasStretch 25 = .ok (.if_icmp .gt 7, 3) := by decide +kernel
theorem dX1_hasStretch_28 : decode cX1_hasStretch 28 = .ok (.iconst 1, 1) := by decide +kernel
theorem dX1_hasStretch_29 : decode cX1_hasStretch 29 = .ok (.goto 4, 3) := by decide +kernel
theorem dX1_hasStretch_32 : decode cX1_hasStretch 32 = .ok (.iconst 0, 1) := by decide +kernel
theorem dX1_hasStretch_33 : decode cX1_hasStretch 33 = .ok (.ireturn, 1) := by decide +kernel
theorem dX1_isSameAs_0 : decode cX1_isSameAs 0 = .ok (.aload_n 1, 1) := by decide +kernel
theorem dX1_isSameAs_1 : decode cX1_isSameAs 1 = .ok (.ifnull 25, 3) := by decide +kernel
theorem dX1_isSameAs_4 : decode cX1_isSameAs 4 = .ok (.aload_n 0, 1) := by decide +kernel
theorem dX1_isSameAs_5 : decode cX1_isSameAs 5 = .ok (.getfield 9, 3) := by decide +kernel
theorem dX1_isSameAs_8 : decode cX1_isSameAs 8 = .ok (.aload_n 1, 1) := by decide +kernel
theorem dX1_isSameAs_9 : decode cX1_isSameAs 9 = .ok (.getfield 9, 3) := by decide +kernel
theorem dX1_isSameAs_12 : decode cX1_isSameAs 12 = .ok (.if_icmp .ne 14, 3) := by decide +kernel
theorem dX1_isSameAs_15 : decode cX1_isSameAs 15 = .ok (.aload_n 0, 1) := by decide +kernel
theorem dX1_isSameAs_16 : decode cX1_isSameAs 16 = .ok (.getfield 15, 3) := by decide +kernel
theorem dX1_isSameAs_19 : decode cX1_isSameAs 19 = .ok (.aload_n 1, 1) := by decide +kernel
theorem dX1_isSameAs_20 : decode cX1_isSameAs 20 = .ok (.getfield 15, 3) := by decide +kernel
theorem dX1_isSameAs_23 : decode cX1_isSameAs 23 = .ok (.if_icmp .eq 5, 3) := by decide +kernel
theorem dX1_isSameAs_26 : decode cX1_isSameAs 26 = .ok (.iconst 0, 1) := by decide +kernel
theorem dX1_isSameAs_27 : decode cX1_isSameAs 27 = .ok (.ireturn, 1) := by decide +kernel
theorem dX1_isSameAs_28 : decode cX1_isSameAs 28 = .ok (.aload_n 0, 1) := by decide +kernel
theorem dX1_isSameAs_29 : decode cX1_isSameAs 29 = .ok (.getfield 18, 3) := by decide +kernel
theorem dX1_isSameAs_32 : decode cX1_isSameAs 32 = .ok (.arraylength, 1) := by decide +kernel
theorem dX1_isSameAs_33 : decode cX1_isSameAs 33 = .ok (.aload_n 1, 1) := by decide +kernel
theorem dX1_isSameAs_34 : decode cX1_isSameAs 34 = .ok (.getfield 18, 3) := by decide +kernel
theorem dX1_isSameAs_37 : decode cX1_isSameAs 37 = .ok (.arraylength, 1) := by decide +kernel
theorem dX1_isSameAs_38 : decode cX1_isSameAs 38 = .ok (.if_icmp .eq 5, 3) := by decide +kernel
theorem dX1_isSameAs_41 : decode cX1_isSameAs 41 = .ok (.iconst 0, 1) := by decide +kernel
theorem dX1_isSameAs_42 : decode cX1_isSameAs 42 = .ok (.ireturn, 1) := by decide +kernel
theorem dX1_isSameAs_43 : decode cX1_isSameAs 43 = .ok (.iconst 0, 1) := by decide +kernel
theorem dX1_isSameAs_44 : decode cX1_isSameAs 44 = .ok (.istore_n 2, 1) := by decide +kernel
theorem dX1_isSameAs_45 : decode cX1_isSameAs 45 = .ok (.iload_n 2, 1) := by decide +kernel
theorem dX1_isSameAs_46 : decode cX1_isSameAs 46 = .ok (.aload_n 0, 1) := by decide +kernel
theorem dX1_isSameAs_47 : decode cX1_isSameAs 47 = .ok (.getfield 18, 3) := by decide +kernel
theorem dX1_isSameAs_50 : decode cX1_isSameAs 50 = .ok (.arraylength, 1) := by decide +kernel
theorem dX1_isSameAs_51 : decode cX1_isSameAs 51 = .ok (.if_icmp .ge 26, 3) := by decide +kernel
theorem dX1_isSameAs_54 : decode cX1_isSameAs 54 = .ok (.aload_n 0, 1) := by decide +kernel
theorem dX1_isSameAs_55 : decode cX1_isSameAs 55 = .ok (.getfield 18, 3) := by decide +kernel
theorem dX1_isSameAs_58 : decode cX1_isSameAs 58 = .ok (.iload_n 2, 1) := by decide +kernel
theorem dX1_isSameAs_59 : decode cX1_isSameAs 59 = .ok (.iaload, 1) := by decide +kernel
theorem dX1_isSameAs_60 : decode cX1_isSameAs 60 = .ok (.aload_n 1, 1) := by decide +kernel
theorem dX1_isSameAs_61 : decode cX1_isSameAs 61 = .ok (.getfield 18, 3) := by decide +kernel
theorem dX1_isSameAs_64 : decode cX1_isSameAs 64 = .ok (.iload_n 2, 1) := by decide +kernel
theorem dX1_isSameAs_65 : decode cX1_isSameAs 65 = .ok (.iaload, 1) := by decide +kernel
theorem dX1_isSameAs_66 : decode cX1_isSameAs 66 = .ok (.if_icmp .eq 5, 3) := by decide +kernel
theorem dX1_isSameAs_69 : decode cX1_isSameAs 69 = .ok (.iconst 0, 1) := by decide +kernel
theorem dX1_isSameAs_70 : decode cX1_isSameAs 70 = .ok (.ireturn, 1) := by decide +kernel
theorem dX1_isSameAs_71 : decode cX1_isSameAs 71 = .ok (.iinc 2 1, 3) := by decide +kernel
theorem dX1_isSameAs_74 : decode cX1_isSameAs 74 = .ok (.goto (-29), 3) := by decide +kernel
theorem dX1_isSameAs_77 : decode cX1_isSameAs 77 = .ok (.iconst 1, 1) := by decide +kernel
theorem dX1_isSameAs_78 : decode cX1_isSameAs 78 = .ok (.ireturn, 1) := by decide +kernel
