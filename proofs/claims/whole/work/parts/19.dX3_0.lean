theorem dX3_init_0 : decode cX3_init 0 = .ok (.aload_n 0, 1) := by decide +kernel
theorem dX3_init_1 : decode cX3_init 1 = .ok (.invokespecial 3, 3) := by decide +kernel
theorem dX3_init_4 : decode cX3_init 4 = .ok (.aload_n 0, 1) := by decide +kernel
theorem dX3_init_5 : decode cX3_init 5 = .ok (.bipush 6, 2) := by decide +kernel
theorem dX3_init_7 : decode cX3_init 7 = .ok (.newarray .int, 2) := by decide +kernel
theorem dX3_init_9 : decode cX3_init 9 = .ok (.putfield 9, 3) := by decide +kernel
theorem dX3_init_12 : decode cX3_init 12 = .ok (.aload_n 0, 1) := by decide +kernel
theorem dX3_init_13 : decode cX3_init 13 = .ok (.iconst 5, 1) := by decide +kernel
theorem dX3_init_14 : decode cX3_init 14 = .ok (.anewarray 15, 3) := by decide +kernel
theorem dX3_init_17 : decode cX3_init 17 = .ok (.putfield 17, 3) := by decide +kernel
theorem dX3_init_20 : decode cX3_init 20 = .ok (.aload_n 0, 1) := by decide +kernel
theorem dX3_init_21 : decode cX3_init 21 = .ok (.iconst 4, 1) := by decide +kernel
theorem dX3_init_22 : decode cX3_init 22 = .ok (.newarray .int, 2) := by decide +kernel
theorem dX3_init_24 : decode cX3_init 24 = .ok (.putfield 21, 3) := by decide +kernel
theorem dX3_init_27 : decode cX3_init 27 = .ok (.aload_n 0, 1) := by decide +kernel
theorem dX3_init_28 : decode cX3_init 28 = .ok (.iload_n 1, 1) := by decide +kernel
theorem dX3_init_29 : decode cX3_init 29 = .ok (.putfield 24, 3) := by decide +kernel
theorem dX3_init_32 : decode cX3_init 32 = .ok (.aload_n 0, 1) := by decide +kernel
theorem dX3_init_33 : decode cX3_init 33 = .ok (.iload_n 2, 1) := by decide +kernel
theorem dX3_init_34 : decode cX3_init 34 = .ok (.putfield 28, 3) := by decide +kernel
theorem dX3_init_37 : decode cX3_init 37 = .ok (.aload_n 0, 1) := by decide +kernel
theorem dX3_init_38 : decode cX3_init 38 = .ok (.iload_n 3, 1) := by decide +kernel
theorem dX3_init_39 : decode cX3_init 39 = .ok (.putfield 31, 3) := by decide +kernel
theorem dX3_init_42 : decode cX3_init 42 = .ok (.aload_n 0, 1) := by decide +kernel
theorem dX3_init_43 : decode cX3_init 43 = .ok (.iconst 2, 1) := by decide +kernel
theorem dX3_init_44 : decode cX3_init 44 = .ok (.iload_n 1, 1) := by decide +kernel
theorem dX3_init_45 : decode cX3_init 45 = .ok (.invokestatic 35, 3) := by decide +kernel
theorem dX3_init_48 : decode cX3_init 48 = .ok (.putfield 39, 3) := by decide +kernel
theorem dX3_init_51 : decode cX3_init 51 = .ok (.aload_n 0, 1) := by decide +kernel
theorem dX3_init_52 : decode cX3_init 52 = .ok (.iconst 3, 1) := by decide +kernel
theorem dX3_init_53 : decode cX3_init 53 = .ok (.iload_n 1, 1) := by decide +kernel
theorem dX3_init_54 : decode cX3_init 54 = .ok (.invokestatic 35, 3) := by decide +kernel
theorem dX3_init_57 : decode cX3_init 57 = .ok (.putfield 43, 3) := by decide +kernel
theorem dX3_init_60 : decode cX3_init 60 = .ok (.aload_n 0, 1) := by decide +kernel
theorem dX3_init_61 : decode cX3_init 61 = .ok (.getfield 21, 3) := by decide +kernel
theorem dX3_init_64 : decode cX3_init 64 = .ok (.iconst (-1), 1) := by decide +kernel
theorem dX3_init_65 : decode cX3_init 65 = .ok (.invokestatic 46, 3) := by decide +kernel
theorem dX3_init_68 : decode cX3_init 68 = .ok (.return_, 1) := by decide +kernel
theorem dX3_hasInput_0 : decode cX3_hasInput 0 = .ok (.iload_n 1, 1) := by decide +kernel
theorem dX3_hasInput_1 : decode cX3_hasInput 1 = .ok (.ifCond .lt 15, 3) := by decide +kernel
theorem dX3_hasInput_4 : decode cX3_hasInput 4 = .ok (.iload_n 1, 1) := by decide +kernel
theorem dX3_hasInput_5 : decode cX3_hasInput 5 = .ok (.aload_n 0, 1) := by decide +kernel
theorem dX3_hasInput_6 : decode cX3_hasInput 6 = .ok (.getfield 52, 3) := by decide +kernel
theorem dX3_hasInput_9 : decode cX3_hasInput 9 = .ok (.if_icmp .ge 7, 3) := by decide +kernel
theorem dX3_hasInput_12 : decode cX3_hasInput 12 = .ok (.iconst 1, 1) := by decide +kernel
theorem dX3_hasInput_13 : decode cX3_hasInput 13 = .ok (.goto 4, 3) := by decide +kernel
theorem dX3_hasInput_16 : decode cX3_hasInput 16 = .ok (.iconst 0, 1) := by decide +kernel
theorem dX3_hasInput_17 : decode cX3_hasInput 17 = .ok (.ireturn, 1) := by decide +kernel
theorem dX3_traceAt_0 : decode cX3_traceAt 0 = .ok (.iload_n 1, 1) := by decide +kernel
theorem dX3_traceAt_1 : decode cX3_traceAt 1 = .ok (.ifCond .lt 20, 3) := by decide +kernel
theorem dX3_traceAt_4 : decode cX3_traceAt 4 = .ok (.iload_n 1, 1) := by decide +kernel
theorem dX3_traceAt_5 : decode cX3_traceAt 5 = .ok (.aload_n 0, 1) := by decide +kernel
theorem dX3_traceAt_6 : decode cX3_traceAt 6 = .ok (.getfield 55, 3) := by decide +kernel
theorem dX3_traceAt_9 : decode cX3_traceAt 9 = .ok (.if_icmp .ge 12, 3) := by decide +kernel
theorem dX3_traceAt_12 : decode cX3_traceAt 12 = .ok (.aload_n 0, 1) := by decide +kernel
theorem dX3_traceAt_13 : decode cX3_traceAt 13 = .ok (.getfield 17, 3) := by decide +kernel
theorem dX3_traceAt_16 : decode cX3_traceAt 16 = .ok (.iload_n 1, 1) := by decide +kernel
theorem dX3_traceAt_17 : decode cX3_traceAt 17 = .ok (.aaload, 1) := by decide +kernel
theorem dX3_traceAt_18 : decode cX3_traceAt 18 = .ok (.goto 4, 3) := by decide +kernel
theorem dX3_traceAt_21 : decode cX3_traceAt 21 = .ok (.aconst_null, 1) := by decide +kernel
theorem dX3_traceAt_22 : decode cX3_traceAt 22 = .ok (.areturn, 1) := by decide +kernel
theorem dX3_dropTraces_0 : decode cX3_dropTraces 0 = .ok (.aload_n 0, 1) := by decide +kernel
theorem dX3_dropTraces_1 : decode cX3_dropTraces 1 = .ok (.iconst 0, 1) := by decide +kernel
theorem dX3_dropTraces_2 : decode cX3_dropTraces 2 = .ok (.putfield 55, 3) := by decide +kernel
theorem dX3_dropTraces_5 : decode cX3_dropTraces 5 = .ok (.return_, 1) := by decide +kernel
theorem dX3_spareTrace_0 : decode cX3_spareTrace 0 = .ok (.aload_n 0, 1) := by decide +kernel
theorem dX3_spareTrace_1 : decode cX3_spareTrace 1 = .ok (.getfield 17, 3) := by decide +kernel
theorem dX3_spareTrace_4 : decode cX3_spareTrace 4 = .ok (.aload_n 0, 1) := by decide +kernel
theorem dX3_spareTrace_5 : decode cX3_spareTrace 5 = .ok (.getfield 55, 3) := by decide +kernel
theorem dX3_spareTrace_8 : decode cX3_spareTrace 8 = .ok (.aaload, 1) := by decide +kernel
theorem dX3_spareTrace_9 : decode cX3_spareTrace 9 = .ok (.astore_n 1, 1) := by decide +kernel
theorem dX3_spareTrace_10 : decode cX3_spareTrace 10 = .ok (.aload_n 1, 1) := by decide +kernel
theorem dX3_spareTrace_11 : decode cX3_spareTrace 11 = .ok (.ifnonnull 21, 3) := by decide +kernel
theorem dX3_spareTrace_14 : decode cX3_spareTrace 14 = .ok (.new 15, 3) := by decide +kernel
theorem dX3_spareTrace_17 : decode cX3_spareTrace 17 = .ok (.dup, 1) := by decide +kernel
theorem dX3_spareTrace_18 : decode cX3_spareTrace 18 = .ok (.invokespecial 58, 3) := by decide +kernel
theorem dX3_spareTrace_21 : decode cX3_spareTrace 21 = .ok (.astore_n 1, 1) := by decide +kernel
theorem dX3_spareTrace_22 : decode cX3_spareTrace 22 = .ok (.aload_n 0, 1) := by decide +kernel
theorem dX3_spareTrace_23 : decode cX3_spareTrace 23 = .ok (.getfield 17, 3) := by decide +kernel
theorem dX3_spareTrace_26 : decode cX3_spareTrace 26 = .ok (.aload_n 0, 1) := by decide +kernel
theorem dX3_spareTrace_27 : decode cX3_spareTrace 27 = .ok (.getfield 55, 3) := by decide +kernel
theorem dX3_spareTrace_30 : decode cX3_spareTrace 30 = .ok (.aload_n 1, 1) := by decide +kernel
theorem dX3_spareTrace_31 : decode cX3_spareTrace 31 = .ok (.aastore, 1) := by decide +kernel
theorem dX3_spareTrace_32 : decode cX3_spareTrace 32 = .ok (.aload_n 1, 1) := by decide +kernel
theorem dX3_spareTrace_33 : decode cX3_spareTrace 33 = .ok (.areturn, 1) := by decide +kernel
theorem dX3_keepSpare_0 : decode cX3_keepSpare 0 = .ok (.aload_n 0, 1) := by decide +kernel
theorem dX3_keepSpare_1 : decode cX3_keepSpare 1 = .ok (.invokevirtual 59, 3) := by decide +kernel
theorem dX3_keepSpare_4 : decode cX3_keepSpare 4 = .ok (.aload_n 1, 1) := by decide +kernel
theorem dX3_keepSpare_5 : decode cX3_keepSpare 5 = .ok (.putfield 63, 3) := by decide +kernel
theorem dX3_keepSpare_8 : decode cX3_keepSpare 8 = .ok (.aload_n 0, 1) := by decide +kernel
theorem dX3_keepSpare_9 : decode cX3_keepSpare 9 = .ok (.aload_n 0, 1) := by decide +kernel
theorem dX3_keepSpare_10 : decode cX3_keepSpare 10 = .ok (.getfield 55, 3) := by decide +kernel
theorem dX3_keepSpare_13 : decode cX3_keepSpare 13 = .ok (.invokevirtual 66, 3) := by decide +kernel
theorem dX3_keepSpare_16 : decode cX3_keepSpare 16 = .ok (.aload_n 0, 1) := by decide +kernel
theorem dX3_keepSpare_17 : decode cX3_keepSpare 17 = .ok (.getfield 55, 3) := by decide +kernel
theorem dX3_keepSpare_20 : decode cX3_keepSpare 20 = .ok (.iconst 4, 1) := by decide +kernel
theorem dX3_keepSpare_21 : decode cX3_keepSpare 21 = .ok (.if_icmp .ge 13, 3) := by decide +kernel
theorem dX3_keepSpare_24 : decode cX3_keepSpare 24 = .ok (.aload_n 0, 1) := by decide +kernel
theorem dX3_keepSpare_25 : decode cX3_keepSpare 25 = .ok (.dup, 1) := by decide +kernel
theorem dX3_keepSpare_26 : decode cX3_keepSpare 26 = .ok (.getfield 55, 3) := by decide +kernel
theorem dX3_keepSpare_29 : decode cX3_keepSpare 29 = .ok (.iconst 1, 1) := by decide +kernel
theorem dX3_keepSpare_30 : decode cX3_keepSpare 30 = .ok (.iadd, 1) := by decide +kernel
theorem dX3_keepSpare_31 : decode cX3_keepSpare 31 = .ok (.putfield 55, 3) := by decide +kernel
theorem dX3_keepSpare_34 : decode cX3_keepSpare 34 = .ok (.return_, 1) := by decide +kernel
theorem dX3_bringForward_0 : decode cX3_bringForward 0 = .ok (.iload_n 1, 1) := by decide +kernel
theorem dX3_bringForward_1 : decode cX3_bringForward 1 = .ok (.ifCond .lt 8, 3) := by decide +kernel
theorem dX3_bringForward_4 : decode cX3_bringForward 4 = .ok (.iload_n 1, 1) := by decide +kernel
theorem dX3_bringForward_5 : decode cX3_bringForward 5 = .ok (.iconst 4, 1) := by decide +kernel
theorem dX3_bringForward_6 : decode cX3_bringForward 6 = .ok (.if_icmp .le 4, 3) := by decide +kernel
theorem dX3_bringForward_9 : decode cX3_bringForward 9 = .ok (.return_, 1) := by decide +kernel
theorem dX3_bringForward_10 : decode cX3_bringForward 10 = .ok (.aload_n 0, 1) := by decide +kernel
theorem dX3_bringForward_11 : decode cX3_bringForward 11 = .ok (.getfield 17, 3) := by decide +kernel
theorem dX3_bringForward_14 : decode cX3_bringForward 14 = .ok (.iload_n 1, 1) := by decide +kernel
theorem dX3_bringForward_15 : decode cX3_bringForward 15 = .ok (.aaload, 1) := by decide +kernel
theorem dX3_bringForward_16 : decode cX3_bringForward 16 = .ok (.astore_n 2, 1) := by decide +kernel
theorem dX3_bringForward_17 : decode cX3_bringForward 17 = .ok (.iload_n 1, 1) := by decide +kernel
theorem dX3_bringForward_18 : decode cX3_bringForward 18 = .ok (.istore_n 3, 1) := by decide +kernel
theorem dX3_bringForward_19 : decode cX3_bringForward 19 = .ok (.iload_n 3, 1) := by decide +kernel
theorem dX3_bringForward_20 : decode cX3_bringForward 20 = .ok (.ifCond .le 23, 3) := by decide +kernel
theorem dX3_bringForward_23 : decode cX3_bringForward 23 = .ok (.aload_n 0, 1) := by decide +kernel
theorem dX3_bringForward_24 : decode cX3_bringForward 24 = .ok (.getfield 17, 3) := by decide +kernel
theorem dX3_bringForward_27 : decode cX3_bringForward 27 = .ok (.iload_n 3, 1) := by decide +kernel
theorem dX3_bringForward_28 : decode cX3_bringForward 28 = .ok (.aload_n 0, 1) := by decide +kernel
theorem dX3_bringForward_29 : decode cX3_bringForward 29 = .ok (.getfield 17, 3) := by decide +kernel
theorem dX3_bringForward_32 : decode cX3_bringForward 32 = .ok (.iload_n 3, 1) := by decide +kernel
theorem dX3_bringForward_33 : decode cX3_bringForward 33 = .ok (.iconst 1, 1) := by decide +kernel
theorem dX3_bringForward_34 : decode cX3_bringForward 34 = .ok (.isub, 1) := by decide +kernel
theorem dX3_bringForward_35 : decode cX3_bringForward 35 = .ok (.aaload, 1) := by decide +kernel
theorem dX3_bringForward_36 : decode cX3_bringForward 36 = .ok (.aastore, 1) := by decide +kernel
theorem dX3_bringForward_37 : decode cX3_bringForward 37 = .ok (.iinc 3 (-1), 3) := by decide +kernel
theorem dX3_bringForward_40 : decode cX3_bringForward 40 = .ok (.goto (-21), 3) := by decide +kernel
theorem dX3_bringForward_43 : decode cX3_bringForward 43 = .ok (.aload_n 0, 1) := by decide +kernel
theorem dX3_bringForward_44 : decode cX3_bringForward 44 = .ok (.getfield 17, 3) := by decide +kernel
theorem dX3_bringForward_47 : decode cX3_bringForward 47 = .ok (.iconst 0, 1) := by decide +kernel
theorem dX3_bringForward_48 : decode cX3_bringForward 48 = .ok (.aload_n 2, 1) := by decide +kernel
theorem dX3_bringForward_49 : decode cX3_bringForward 49 = .ok (.aastore, 1) := by decide +kernel
theorem dX3_bringForward_50 : decode cX3_bringForward 50 = .ok (.return_, 1) := by decide +kernel
theorem dX3_beginRound_0 : decode cX3_beginRound 0 = .ok (.aload_n 0, 1) := by decide +kernel
theorem dX3_beginRound_1 : decode cX3_beginRound 1 = .ok (.aconst_null, 1) := by decide +kernel
theorem dX3_beginRound_2 : decode cX3_beginRound 2 = .ok (.putfield 70, 3) := by decide +kernel
theorem dX3_beginRound_5 : decode cX3_beginRound 5 = .ok (.aload_n 0, 1) := by decide +kernel
theorem dX3_beginRound_6 : decode cX3_beginRound 6 = .ok (.aconst_null, 1) := by decide +kernel
theorem dX3_beginRound_7 : decode cX3_beginRound 7 = .ok (.putfield 73, 3) := by decide +kernel
theorem dX3_beginRound_10 : decode cX3_beginRound 10 = .ok (.iload_n 1, 1) := by decide +kernel
theorem dX3_beginRound_11 : decode cX3_beginRound 11 = .ok (.ifCond .ne 11, 3) := by decide +kernel
theorem dX3_beginRound_14 : decode cX3_beginRound 14 = .ok (.aload_n 0, 1) := by decide +kernel
theorem dX3_beginRound_15 : decode cX3_beginRound 15 = .ok (.getfield 21, 3) := by decide +kernel
theorem dX3_beginRound_18 : decode cX3_beginRound 18 = .ok (.iconst (-1), 1) := by decide +kernel
theorem dX3_beginRound_19 : decode cX3_beginRound 19 = .ok (.invokestatic 46, 3) := by decide +kernel
theorem dX3_beginRound_22 : decode cX3_beginRound 22 = .ok (.return_, 1) := by decide +kernel
