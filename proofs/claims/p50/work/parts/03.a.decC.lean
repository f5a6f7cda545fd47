theorem dX0_init_0 : decode cX0_init 0 = .ok (.aload_n 0, 1) := by decide +kernel
theorem dX0_init_1 : decode cX0_init 1 = .ok (.invokespecial 1, 3) := by decide +kernel
theorem dX0_init_4 : decode cX0_init 4 = .ok (.aload_n 0, 1) := by decide +kernel
theorem dX0_init_5 : decode cX0_init 5 = .ok (.bipush 6, 2) := by decide +kernel
theorem dX0_init_7 : decode cX0_init 7 = .ok (.anewarray 9, 3) := by decide +kernel
theorem dX0_init_10 : decode cX0_init 10 = .ok (.putfield 11, 3) := by decide +kernel
theorem dX0_init_13 : decode cX0_init 13 = .ok (.iconst 0, 1) := by decide +kernel
theorem dX0_init_14 : decode cX0_init 14 = .ok (.istore_n 1, 1) := by decide +kernel
theorem dX0_init_15 : decode cX0_init 15 = .ok (.iload_n 1, 1) := by decide +kernel
theorem dX0_init_16 : decode cX0_init 16 = .ok (.bipush 6, 2) := by decide +kernel
theorem dX0_init_18 : decode cX0_init 18 = .ok (.if_icmp .ge 22, 3) := by decide +kernel
theorem dX0_init_21 : decode cX0_init 21 = .ok (.aload_n 0, 1) := by decide +kernel
theorem dX0_init_22 : decode cX0_init 22 = .ok (.getfield 11, 3) := by decide +kernel
theorem dX0_init_25 : decode cX0_init 25 = .ok (.iload_n 1, 1) := by decide +kernel
theorem dX0_init_26 : decode cX0_init 26 = .ok (.new 9, 3) := by decide +kernel
theorem dX0_init_29 : decode cX0_init 29 = .ok (.dup, 1) := by decide +kernel
theorem dX0_init_30 : decode cX0_init 30 = .ok (.invokespecial 15, 3) := by decide +kernel
theorem dX0_init_33 : decode cX0_init 33 = .ok (.aastore, 1) := by decide +kernel
theorem dX0_init_34 : decode cX0_init 34 = .ok (.iinc 1 1, 3) := by decide +kernel
theorem dX0_init_37 : decode cX0_init 37 = .ok (.goto (-22), 3) := by decide +kernel
theorem dX0_init_40 : decode cX0_init 40 = .ok (.return_, 1) := by decide +kernel
theorem dX0_push_0 : decode cX0_push 0 = .ok (.aload_n 0, 1) := by decide +kernel
theorem dX0_push_1 : decode cX0_push 1 = .ok (.getfield 11, 3) := by decide +kernel
theorem dX0_push_4 : decode cX0_push 4 = .ok (.aload_n 0, 1) := by decide +kernel
theorem dX0_push_5 : decode cX0_push 5 = .ok (.getfield 16, 3) := by decide +kernel
theorem dX0_push_8 : decode cX0_push 8 = .ok (.aaload, 1) := by decide +kernel
theorem dX0_push_9 : decode cX0_push 9 = .ok (.aload_n 1, 1) := by decide +kernel
theorem dX0_push_10 : decode cX0_push 10 = .ok (.invokevirtual 20, 3) := by decide +kernel
theorem dX0_push_13 : decode cX0_push 13 = .ok (.aload_n 0, 1) := by decide +kernel
theorem dX0_push_14 : decode cX0_push 14 = .ok (.aload_n 0, 1) := by decide +kernel
theorem dX0_push_15 : decode cX0_push 15 = .ok (.getfield 16, 3) := by decide +kernel
theorem dX0_push_18 : decode cX0_push 18 = .ok (.iconst 1, 1) := by decide +kernel
theorem dX0_push_19 : decode cX0_push 19 = .ok (.iadd, 1) := by decide +kernel
theorem dX0_push_20 : decode cX0_push 20 = .ok (.bipush 6, 2) := by decide +kernel
theorem dX0_push_22 : decode cX0_push 22 = .ok (.irem, 1) := by decide +kernel
theorem dX0_push_23 : decode cX0_push 23 = .ok (.putfield 16, 3) := by decide +kernel
theorem dX0_push_26 : decode cX0_push 26 = .ok (.aload_n 0, 1) := by decide +kernel
theorem dX0_push_27 : decode cX0_push 27 = .ok (.aload_n 0, 1) := by decide +kernel
theorem dX0_push_28 : decode cX0_push 28 = .ok (.getfield 24, 3) := by decide +kernel
theorem dX0_push_31 : decode cX0_push 31 = .ok (.iconst 1, 1) := by decide +kernel
theorem dX0_push_32 : decode cX0_push 32 = .ok (.iadd, 1) := by decide +kernel
theorem dX0_push_33 : decode cX0_push 33 = .ok (.bipush 6, 2) := by decide +kernel
theorem dX0_push_35 : decode cX0_push 35 = .ok (.invokestatic 27, 3) := by decide +kernel
theorem dX0_push_38 : decode cX0_push 38 = .ok (.putfield 24, 3) := by decide +kernel
theorem dX0_push_41 : decode cX0_push 41 = .ok (.return_, 1) := by decide +kernel
theorem dX1_init_0 : decode cX1_init 0 = .ok (.aload_n 0, 1) := by decide +kernel
theorem dX1_init_1 : decode cX1_init 1 = .ok (.invokespecial 1, 3) := by decide +kernel
theorem dX1_init_4 : decode cX1_init 4 = .ok (.aload_n 0, 1) := by decide +kernel
theorem dX1_init_5 : decode cX1_init 5 = .ok (.iconst 5, 1) := by decide +kernel
theorem dX1_init_6 : decode cX1_init 6 = .ok (.putfield 7, 3) := by decide +kernel
theorem dX1_init_9 : decode cX1_init 9 = .ok (.aload_n 0, 1) := by decide +kernel
theorem dX1_init_10 : decode cX1_init 10 = .ok (.iconst 2, 1) := by decide +kernel
theorem dX1_init_11 : decode cX1_init 11 = .ok (.putfield 13, 3) := by decide +kernel
theorem dX1_init_14 : decode cX1_init 14 = .ok (.return_, 1) := by decide +kernel
theorem dX1_copyFrom_0 : decode cX1_copyFrom 0 = .ok (.aload_n 0, 1) := by decide +kernel
theorem dX1_copyFrom_1 : decode cX1_copyFrom 1 = .ok (.aload_n 1, 1) := by decide +kernel
theorem dX1_copyFrom_2 : decode cX1_copyFrom 2 = .ok (.getfield 16, 3) := by decide +kernel
theorem dX1_copyFrom_5 : decode cX1_copyFrom 5 = .ok (.putfield 16, 3) := by decide +kernel
theorem dX1_copyFrom_8 : decode cX1_copyFrom 8 = .ok (.aload_n 0, 1) := by decide +kernel
theorem dX1_copyFrom_9 : decode cX1_copyFrom 9 = .ok (.aload_n 1, 1) := by decide +kernel
theorem dX1_copyFrom_10 : decode cX1_copyFrom 10 = .ok (.getfield 19, 3) := by decide +kernel
theorem dX1_copyFrom_13 : decode cX1_copyFrom 13 = .ok (.putfield 19, 3) := by decide +kernel
theorem dX1_copyFrom_16 : decode cX1_copyFrom 16 = .ok (.aload_n 0, 1) := by decide +kernel
theorem dX1_copyFrom_17 : decode cX1_copyFrom 17 = .ok (.aload_n 1, 1) := by decide +kernel
theorem dX1_copyFrom_18 : decode cX1_copyFrom 18 = .ok (.getfield 22, 3) := by decide +kernel
theorem dX1_copyFrom_21 : decode cX1_copyFrom 21 = .ok (.putfield 22, 3) := by decide +kernel
theorem dX1_copyFrom_24 : decode cX1_copyFrom 24 = .ok (.aload_n 0, 1) := by decide +kernel
theorem dX1_copyFrom_25 : decode cX1_copyFrom 25 = .ok (.aload_n 1, 1) := by decide +kernel
theorem dX1_copyFrom_26 : decode cX1_copyFrom 26 = .ok (.getfield 7, 3) := by decide +kernel
theorem dX1_copyFrom_29 : decode cX1_copyFrom 29 = .ok (.putfield 7, 3) := by decide +kernel
theorem dX1_copyFrom_32 : decode cX1_copyFrom 32 = .ok (.aload_n 0, 1) := by decide +kernel
theorem dX1_copyFrom_33 : decode cX1_copyFrom 33 = .ok (.aload_n 1, 1) := by decide +kernel
theorem dX1_copyFrom_34 : decode cX1_copyFrom 34 = .ok (.getfield 13, 3) := by decide +kernel
theorem dX1_copyFrom_37 : decode cX1_copyFrom 37 = .ok (.putfield 13, 3) := by decide +kernel
theorem dX1_copyFrom_40 : decode cX1_copyFrom 40 = .ok (.aload_n 0, 1) := by decide +kernel
theorem dX1_copyFrom_41 : decode cX1_copyFrom 41 = .ok (.aload_n 1, 1) := by decide +kernel
theorem dX1_copyFrom_42 : decode cX1_copyFrom 42 = .ok (.getfield 25, 3) := by decide +kernel
theorem dX1_copyFrom_45 : decode cX1_copyFrom 45 = .ok (.putfield 25, 3) := by decide +kernel
theorem dX1_copyFrom_48 : decode cX1_copyFrom 48 = .ok (.aload_n 0, 1) := by decide +kernel
theorem dX1_copyFrom_49 : decode cX1_copyFrom 49 = .ok (.aload_n 1, 1) := by decide +kernel
theorem dX1_copyFrom_50 : decode cX1_copyFrom 50 = .ok (.getfield 28, 3) := by decide +kernel
theorem dX1_copyFrom_53 : decode cX1_copyFrom 53 = .ok (.putfield 28, 3) := by decide +kernel
theorem dX1_copyFrom_56 : decode cX1_copyFrom 56 = .ok (.return_, 1) := by decide +kernel
theorem dX1_setOffset_0 : decode cX1_setOffset 0 = .ok (.aload_n 0, 1) := by decide +kernel
theorem dX1_setOffset_1 : decode cX1_setOffset 1 = .ok (.iload_n 1, 1) := by decide +kernel
theorem dX1_setOffset_2 : decode cX1_setOffset 2 = .ok (.putfield 16, 3) := by decide +kernel
theorem dX1_setOffset_5 : decode cX1_setOffset 5 = .ok (.aload_n 0, 1) := by decide +kernel
theorem dX1_setOffset_6 : decode cX1_setOffset 6 = .ok (.iload_n 2, 1) := by decide +kernel
theorem dX1_setOffset_7 : decode cX1_setOffset 7 = .ok (.putfield 19, 3) := by decide +kernel
theorem dX1_setOffset_10 : decode cX1_setOffset 10 = .ok (.aload_n 0, 1) := by decide +kernel
theorem dX1_setOffset_11 : decode cX1_setOffset 11 = .ok (.iload_n 2, 1) := by decide +kernel
theorem dX1_setOffset_12 : decode cX1_setOffset 12 = .ok (.putfield 25, 3) := by decide +kernel
theorem dX1_setOffset_15 : decode cX1_setOffset 15 = .ok (.return_, 1) := by decide +kernel
theorem dX1_changeDrift_0 : decode cX1_changeDrift 0 = .ok (.aload_n 0, 1) := by decide +kernel
theorem dX1_changeDrift_1 : decode cX1_changeDrift 1 = .ok (.getfield 22, 3) := by decide +kernel
theorem dX1_changeDrift_4 : decode cX1_changeDrift 4 = .ok (.istore_n 3, 1) := by decide +kernel
theorem dX1_changeDrift_5 : decode cX1_changeDrift 5 = .ok (.aload_n 0, 1) := by decide +kernel
theorem dX1_changeDrift_6 : decode cX1_changeDrift 6 = .ok (.aload_n 0, 1) := by decide +kernel
theorem dX1_changeDrift_7 : decode cX1_changeDrift 7 = .ok (.iload_n 2, 1) := by decide +kernel
theorem dX1_changeDrift_8 : decode cX1_changeDrift 8 = .ok (.invokevirtual 31, 3) := by decide +kernel
theorem dX1_changeDrift_11 : decode cX1_changeDrift 11 = .ok (.putfield 16, 3) := by decide +kernel
theorem dX1_changeDrift_14 : decode cX1_changeDrift 14 = .ok (.aload_n 0, 1) := by decide +kernel
theorem dX1_changeDrift_15 : decode cX1_changeDrift 15 = .ok (.iload_n 2, 1) := by decide +kernel
theorem dX1_changeDrift_16 : decode cX1_changeDrift 16 = .ok (.putfield 19, 3) := by decide +kernel
theorem dX1_changeDrift_19 : decode cX1_changeDrift 19 = .ok (.aload_n 0, 1) := by decide +kernel
theorem dX1_changeDrift_20 : decode cX1_changeDrift 20 = .ok (.iload_n 1, 1) := by decide +kernel
theorem dX1_changeDrift_21 : decode cX1_changeDrift 21 = .ok (.putfield 22, 3) := by decide +kernel
theorem dX1_changeDrift_24 : decode cX1_changeDrift 24 = .ok (.iload_n 3, 1) := by decide +kernel
theorem dX1_changeDrift_25 : decode cX1_changeDrift 25 = .ok (.ireturn, 1) := by decide +kernel
theorem dX1_changeUncertainty_0 : decode cX1_changeUncertainty 0 = .ok (.aload_n 0, 1) := by decide +kernel
theorem dX1_changeUncertainty_1 : decode cX1_changeUncertainty 1 = .ok (.iload_n 1, 1) := by decide +kernel
theorem dX1_changeUncertainty_2 : decode cX1_changeUncertainty 2 = .ok (.putfield 7, 3) := by decide +kernel
theorem dX1_changeUncertainty_5 : decode cX1_changeUncertainty 5 = .ok (.aload_n 0, 1) := by decide +kernel
theorem dX1_changeUncertainty_6 : decode cX1_changeUncertainty 6 = .ok (.iload_n 2, 1) := by decide +kernel
theorem dX1_changeUncertainty_7 : decode cX1_changeUncertainty 7 = .ok (.putfield 13, 3) := by decide +kernel
theorem dX1_changeUncertainty_10 : decode cX1_changeUncertainty 10 = .ok (.return_, 1) := by decide +kernel
theorem dX1_offsetAt_0 : decode cX1_offsetAt 0 = .ok (.aload_n 0, 1) := by decide +kernel
theorem dX1_offsetAt_1 : decode cX1_offsetAt 1 = .ok (.getfield 16, 3) := by decide +kernel
theorem dX1_offsetAt_4 : decode cX1_offsetAt 4 = .ok (.aload_n 0, 1) := by decide +kernel
theorem dX1_offsetAt_5 : decode cX1_offsetAt 5 = .ok (.getfield 22, 3) := by decide +kernel
theorem dX1_offsetAt_8 : decode cX1_offsetAt 8 = .ok (.iload_n 1, 1) := by decide +kernel
theorem dX1_offsetAt_9 : decode cX1_offsetAt 9 = .ok (.aload_n 0, 1) := by decide +kernel
theorem dX1_offsetAt_10 : decode cX1_offsetAt 10 = .ok (.getfield 19, 3) := by decide +kernel
theorem dX1_offsetAt_13 : decode cX1_offsetAt 13 = .ok (.isub, 1) := by decide +kernel
theorem dX1_offsetAt_14 : decode cX1_offsetAt 14 = .ok (.imul, 1) := by decide +kernel
theorem dX1_offsetAt_15 : decode cX1_offsetAt 15 = .ok (.sipush 1000, 3) := by decide +kernel
theorem dX1_offsetAt_18 : decode cX1_offsetAt 18 = .ok (.invokestatic 35, 3) := by decide +kernel
theorem dX1_offsetAt_21 : decode cX1_offsetAt 21 = .ok (.iadd, 1) := by decide +kernel
theorem dX1_offsetAt_22 : decode cX1_offsetAt 22 = .ok (.ireturn, 1) := by decide +kernel
theorem dX1_uncertaintyAt_0 : decode cX1_uncertaintyAt 0 = .ok (.aload_n 0, 1) := by decide +kernel
theorem dX1_uncertaintyAt_1 : decode cX1_uncertaintyAt 1 = .ok (.getfield 7, 3) := by decide +kernel
theorem dX1_uncertaintyAt_4 : decode cX1_uncertaintyAt 4 = .ok (.aload_n 0, 1) := by decide +kernel
theorem dX1_uncertaintyAt_5 : decode cX1_uncertaintyAt 5 = .ok (.getfield 13, 3) := by decide +kernel
theorem dX1_uncertaintyAt_8 : decode cX1_uncertaintyAt 8 = .ok (.ineg, 1) := by decide +kernel
theorem dX1_uncertaintyAt_9 : decode cX1_uncertaintyAt 9 = .ok (.iload_n 1, 1) := by decide +kernel
theorem dX1_uncertaintyAt_10 : decode cX1_uncertaintyAt 10 = .ok (.aload_n 0, 1) := by decide +kernel
theorem dX1_uncertaintyAt_11 : decode cX1_uncertaintyAt 11 = .ok (.getfield 25, 3) := by decide +kernel
theorem dX1_uncertaintyAt_14 : decode cX1_uncertaintyAt 14 = .ok (.isub, 1) := by decide +kernel
theorem dX1_uncertaintyAt_15 : decode cX1_uncertaintyAt 15 = .ok (.imul, 1) := by decide +kernel
theorem dX1_uncertaintyAt_16 : decode cX1_uncertaintyAt 16 = .ok (.sipush 1000, 3) := by decide +kernel
theorem dX1_uncertaintyAt_19 : decode cX1_uncertaintyAt 19 = .ok (.invokestatic 35, 3) := by decide +kernel
theorem dX1_uncertaintyAt_22 : decode cX1_uncertaintyAt 22 = .ok (.isub, 1) := by decide +kernel
theorem dX1_uncertaintyAt_23 : decode cX1_uncertaintyAt 23 = .ok (.ireturn, 1) := by decide +kernel
theorem dX1_earliestAt_0 : decode cX1_earliestAt 0 = .ok (.iload_n 1, 1) := by decide +kernel
theorem dX1_earliestAt_1 : decode cX1_earliestAt 1 = .ok (.aload_n 0, 1) := by decide +kernel
theorem dX1_earliestAt_2 : decode cX1_earliestAt 2 = .ok (.iload_n 1, 1) := by decide +kernel
theorem dX1_earliestAt_3 : decode cX1_earliestAt 3 = .ok (.invokevirtual 31, 3) := by decide +kernel
theorem dX1_earliestAt_6 : decode cX1_earliestAt 6 = .ok (.iadd, 1) := by decide +kernel
theorem dX1_earliestAt_7 : decode cX1_earliestAt 7 = .ok (.aload_n 0, 1) := by decide +kernel
theorem dX1_earliestAt_8 : decode cX1_earliestAt 8 = .ok (.iload_n 1, 1) := by decide +kernel
theorem dX1_earliestAt_9 : decode cX1_earliestAt 9 = .ok (.invokevirtual 41, 3) := by decide +kernel
theorem dX1_earliestAt_12 : decode cX1_earliestAt 12 = .ok (.isub, 1) := by decide +kernel
theorem dX1_earliestAt_13 : decode cX1_earliestAt 13 = .ok (.ireturn, 1) := by decide +kernel
theorem dX1_latestAt_0 : decode cX1_latestAt 0 = .ok (.iload_n 1, 1) := by decide +kernel
theorem dX1_latestAt_1 : decode cX1_latestAt 1 = .ok (.aload_n 0, 1) := by decide +kernel
theorem dX1_latestAt_2 : decode cX1_latestAt 2 = .ok (.iload_n 1, 1) := by decide +kernel
theorem dX1_latestAt_3 : decode cX1_latestAt 3 = .ok (.invokevirtual 31, 3) := by decide +kernel
theorem dX1_latestAt_6 : decode cX1_latestAt 6 = .ok (.iadd, 1) := by decide +kernel
theorem dX1_latestAt_7 : decode cX1_latestAt 7 = .ok (.aload_n 0, 1) := by decide +kernel
theorem dX1_latestAt_8 : decode cX1_latestAt 8 = .ok (.iload_n 1, 1) := by decide +kernel
theorem dX1_latestAt_9 : decode cX1_latestAt 9 = .ok (.invokevirtual 41, 3) := by decide +kernel
theorem dX1_latestAt_12 : decode cX1_latestAt 12 = .ok (.iadd, 1) := by decide +kernel
theorem dX1_latestAt_13 : decode cX1_latestAt 13 = .ok (.ireturn, 1) := by decide +kernel
theorem dX1_isSoundAt_0 : decode cX1_isSoundAt 0 = .ok (.aload_n 0, 1) := by decide +kernel
theorem dX1_isSoundAt_1 : decode cX1_isSoundAt 1 = .ok (.iload_n 1, 1) := by decide +kernel
theorem dX1_isSoundAt_2 : decode cX1_isSoundAt 2 = .ok (.invokevirtual 31, 3) := by decide +kernel
theorem dX1_isSoundAt_5 : decode cX1_isSoundAt 5 = .ok (.istore_n 2, 1) := by decide +kernel
theorem dX1_isSoundAt_6 : decode cX1_isSoundAt 6 = .ok (.aload_n 0, 1) := by decide +kernel
theorem dX1_isSoundAt_7 : decode cX1_isSoundAt 7 = .ok (.iload_n 1, 1) := by decide +kernel
theorem dX1_isSoundAt_8 : decode cX1_isSoundAt 8 = .ok (.invokevirtual 41, 3) := by decide +kernel
theorem dX1_isSoundAt_11 : decode cX1_isSoundAt 11 = .ok (.istore_n 3, 1) := by decide +kernel
theorem dX1_isSoundAt_12 : decode cX1_isSoundAt 12 = .ok (.iload_n 2, 1) := by decide +kernel
theorem dX1_isSoundAt_13 : decode cX1_isSoundAt 13 = .ok (.iload_n 3, 1) := by decide +kernel
theorem dX1_isSoundAt_14 : decode cX1_isSoundAt 14 = .ok (.isub, 1) := by decide +kernel
theorem dX1_isSoundAt_15 : decode cX1_isSoundAt 15 = .ok (.ifCond .gt 13, 3) := by decide +kernel
theorem dX1_isSoundAt_18 : decode cX1_isSoundAt 18 = .ok (.iload_n 2, 1) := by decide +kernel
theorem dX1_isSoundAt_19 : decode cX1_isSoundAt 19 = .ok (.iload_n 3, 1) := by decide +kernel
theorem dX1_isSoundAt_20 : decode cX1_isSoundAt 20 = .ok (.iadd, 1) := by decide +kernel
theorem dX1_isSoundAt_21 : decode cX1_isSoundAt 21 = .ok (.ifCond .lt 7, 3) := by decide +kernel
theorem dX1_isSoundAt_24 : decode cX1_isSoundAt 24 = .ok (.iconst 1, 1) := by decide +kernel
theorem dX1_isSoundAt_25 : decode cX1_isSoundAt 25 = .ok (.goto 4, 3) := by decide +kernel
theorem dX1_isSoundAt_28 : decode cX1_isSoundAt 28 = .ok (.iconst 0, 1) := by decide +kernel
theorem dX1_isSoundAt_29 : decode cX1_isSoundAt 29 = .ok (.ireturn, 1) := by decide +kernel
theorem dX1_ticksUntilLatestPasses_0 : decode cX1_ticksUntilLatestPasses 0 = .ok (.lconst 0, 1) := by decide +kernel
theorem dX1_ticksUntilLatestPasses_1 : decode cX1_ticksUntilLatestPasses 1 = .ok (.lstore 4, 2) := by decide +kernel
theorem dX1_ticksUntilLatestPasses_3 : decode cX1_ticksUntilLatestPasses 3 = .ok (.lload 4, 2) := by decide +kernel
theorem dX1_ticksUntilLatestPasses_5 : decode cX1_ticksUntilLatestPasses 5 = .ok (.iload_n 3, 1) := by decide +kernel
theorem dX1_ticksUntilLatestPasses_6 : decode cX1_ticksUntilLatestPasses 6 = .ok (.i2l, 1) := by decide +kernel
theorem dX1_ticksUntilLatestPasses_7 : decode cX1_ticksUntilLatestPasses 7 = .ok (.lcmp, 1) := by decide +kernel
theorem dX1_ticksUntilLatestPasses_8 : decode cX1_ticksUntilLatestPasses 8 = .ok (.ifCond .gt 45, 3) := by decide +kernel
theorem dX1_ticksUntilLatestPasses_11 : decode cX1_ticksUntilLatestPasses 11 = .ok (.iload_n 1, 1) := by decide +kernel
theorem dX1_ticksUntilLatestPasses_12 : decode cX1_ticksUntilLatestPasses 12 = .ok (.i2l, 1) := by decide +kernel
theorem dX1_ticksUntilLatestPasses_13 : decode cX1_ticksUntilLatestPasses 13 = .ok (.aload_n 0, 1) := by decide +kernel
theorem dX1_ticksUntilLatestPasses_14 : decode cX1_ticksUntilLatestPasses 14 = .ok (.iload_n 2, 1) := by decide +kernel
theorem dX1_ticksUntilLatestPasses_15 : decode cX1_ticksUntilLatestPasses 15 = .ok (.lload 4, 2) := by decide +kernel
theorem dX1_ticksUntilLatestPasses_17 : decode cX1_ticksUntilLatestPasses 17 = .ok (.l2i, 1) := by decide +kernel
theorem dX1_ticksUntilLatestPasses_18 : decode cX1_ticksUntilLatestPasses 18 = .ok (.iadd, 1) := by decide +kernel
theorem dX1_ticksUntilLatestPasses_19 : decode cX1_ticksUntilLatestPasses 19 = .ok (.invokevirtual 44, 3) := by decide +kernel
theorem dX1_ticksUntilLatestPasses_22 : decode cX1_ticksUntilLatestPasses 22 = .ok (.i2l, 1) := by decide +kernel
theorem dX1_ticksUntilLatestPasses_23 : decode cX1_ticksUntilLatestPasses 23 = .ok (.lsub, 1) := by decide +kernel
theorem dX1_ticksUntilLatestPasses_24 : decode cX1_ticksUntilLatestPasses 24 = .ok (.lstore 6, 2) := by decide +kernel
theorem dX1_ticksUntilLatestPasses_26 : decode cX1_ticksUntilLatestPasses 26 = .ok (.lload 6, 2) := by decide +kernel
theorem dX1_ticksUntilLatestPasses_28 : decode cX1_ticksUntilLatestPasses 28 = .ok (.lconst 0, 1) := by decide +kernel
theorem dX1_ticksUntilLatestPasses_29 : decode cX1_ticksUntilLatestPasses 29 = .ok (.lcmp, 1) := by decide +kernel
theorem dX1_ticksUntilLatestPasses_30 : decode cX1_ticksUntilLatestPasses 30 = .ok (.ifCond .ge 7, 3) := by decide +kernel
theorem dX1_ticksUntilLatestPasses_33 : decode cX1_ticksUntilLatestPasses 33 = .ok (.lload 4, 2) := by decide +kernel
theorem dX1_ticksUntilLatestPasses_35 : decode cX1_ticksUntilLatestPasses 35 = .ok (.l2i, 1) := by decide +kernel
theorem dX1_ticksUntilLatestPasses_36 : decode cX1_ticksUntilLatestPasses 36 = .ok (.ireturn, 1) := by decide +kernel
theorem dX1_ticksUntilLatestPasses_37 : decode cX1_ticksUntilLatestPasses 37 = .ok (.lload 4, 2) := by decide +kernel
theorem dX1_ticksUntilLatestPasses_39 : decode cX1_ticksUntilLatestPasses 39 = .ok (.lconst 1, 1) := by decide +kernel
theorem dX1_ticksUntilLatestPasses_40 : decode cX1_ticksUntilLatestPasses 40 = .ok (.lload 6, 2) := by decide +kernel
theorem dX1_ticksUntilLatestPasses_42 : decode cX1_ticksUntilLatestPasses 42 = .ok (.ldc2_w 47, 3) := by decide +kernel
theorem dX1_ticksUntilLatestPasses_45 : decode cX1_ticksUntilLatestPasses 45 = .ok (.ldiv, 1) := by decide +kernel
theorem dX1_ticksUntilLatestPasses_46 : decode cX1_ticksUntilLatestPasses 46 = .ok (.ladd, 1) := by decide +kernel
theorem dX1_ticksUntilLatestPasses_47 : decode cX1_ticksUntilLatestPasses 47 = .ok (.ladd, 1) := by decide +kernel
theorem dX1_ticksUntilLatestPasses_48 : decode cX1_ticksUntilLatestPasses 48 = .ok (.lstore 4, 2) := by decide +kernel
theorem dX1_ticksUntilLatestPasses_50 : decode cX1_ticksUntilLatestPasses 50 = .ok (.goto (-47), 3) := by decide +kernel
theorem dX1_ticksUntilLatestPasses_53 : decode cX1_ticksUntilLatestPasses 53 = .ok (.iload_n 3, 1) := by decide +kernel
theorem dX1_ticksUntilLatestPasses_54 : decode cX1_ticksUntilLatestPasses 54 = .ok (.iconst 1, 1) := by decide +kernel
theorem dX1_ticksUntilLatestPasses_55 : decode cX1_ticksUntilLatestPasses 55 = .ok (.iadd, 1) := by decide +kernel
theorem dX1_ticksUntilLatestPasses_56 : decode cX1_ticksUntilLatestPasses 56 = .ok (.ireturn, 1) := by decide +kernel
theorem dX2_init_0 : decode cX2_init 0 = .ok (.aload_n 0, 1) := by decide +kernel
theorem dX2_init_1 : decode cX2_init 1 = .ok (.invokespecial 3, 3) := by decide +kernel
theorem dX2_init_4 : decode cX2_init 4 = .ok (.aload_n 0, 1) := by decide +kernel
theorem dX2_init_5 : decode cX2_init 5 = .ok (.iconst 3, 1) := by decide +kernel
theorem dX2_init_6 : decode cX2_init 6 = .ok (.anewarray 9, 3) := by decide +kernel
theorem dX2_init_9 : decode cX2_init 9 = .ok (.putfield 11, 3) := by decide +kernel
theorem dX2_init_12 : decode cX2_init 12 = .ok (.aload_n 0, 1) := by decide +kernel
theorem dX2_init_13 : decode cX2_init 13 = .ok (.new 17, 3) := by decide +kernel
theorem dX2_init_16 : decode cX2_init 16 = .ok (.dup, 1) := by decide +kernel
theorem dX2_init_17 : decode cX2_init 17 = .ok (.invokespecial 19, 3) := by decide +kernel
theorem dX2_init_20 : decode cX2_init 20 = .ok (.putfield 20, 3) := by decide +kernel
theorem dX2_init_23 : decode cX2_init 23 = .ok (.aload_n 0, 1) := by decide +kernel
theorem dX2_init_24 : decode cX2_init 24 = .ok (.new 24, 3) := by decide +kernel
theorem dX2_init_27 : decode cX2_init 27 = .ok (.dup, 1) := by decide +kernel
theorem dX2_init_28 : decode cX2_init 28 = .ok (.invokespecial 26, 3) := by decide +kernel
theorem dX2_init_31 : decode cX2_init 31 = .ok (.putfield 27, 3) := by decide +kernel
theorem dX2_init_34 : decode cX2_init 34 = .ok (.iconst 0, 1) := by decide +kernel
theorem dX2_init_35 : decode cX2_init 35 = .ok (.istore_n 1, 1) := by decide +kernel
theorem dX2_init_36 : decode cX2_init 36 = .ok (.iload_n 1, 1) := by decide +kernel
theorem dX2_init_37 : decode cX2_init 37 = .ok (.iconst 3, 1) := by decide +kernel
theorem dX2_init_38 : decode cX2_init 38 = .ok (.if_icmp .ge 22, 3) := by decide +kernel
theorem dX2_init_41 : decode cX2_init 41 = .ok (.aload_n 0, 1) := by decide +kernel
theorem dX2_init_42 : decode cX2_init 42 = .ok (.getfield 11, 3) := by decide +kernel
theorem dX2_init_45 : decode cX2_init 45 = .ok (.iload_n 1, 1) := by decide +kernel
theorem dX2_init_46 : decode cX2_init 46 = .ok (.new 9, 3) := by decide +kernel
theorem dX2_init_49 : decode cX2_init 49 = .ok (.dup, 1) := by decide +kernel
theorem dX2_init_50 : decode cX2_init 50 = .ok (.invokespecial 31, 3) := by decide +kernel
theorem dX2_init_53 : decode cX2_init 53 = .ok (.aastore, 1) := by decide +kernel
theorem dX2_init_54 : decode cX2_init 54 = .ok (.iinc 1 1, 3) := by decide +kernel
theorem dX2_init_57 : decode cX2_init 57 = .ok (.goto (-21), 3) := by decide +kernel
theorem dX2_init_60 : decode cX2_init 60 = .ok (.return_, 1) := by decide +kernel
theorem dX2_copyFrom_0 : decode cX2_copyFrom 0 = .ok (.aload_n 0, 1) := by decide +kernel
theorem dX2_copyFrom_1 : decode cX2_copyFrom 1 = .ok (.aload_n 1, 1) := by decide +kernel
theorem dX2_copyFrom_2 : decode cX2_copyFrom 2 = .ok (.getfield 32, 3) := by decide +kernel
theorem dX2_copyFrom_5 : decode cX2_copyFrom 5 = .ok (.putfield 32, 3) := by decide +kernel
theorem dX2_copyFrom_8 : decode cX2_copyFrom 8 = .ok (.aload_n 0, 1) := by decide +kernel
theorem dX2_copyFrom_9 : decode cX2_copyFrom 9 = .ok (.aload_n 1, 1) := by decide +kernel
theorem dX2_copyFrom_10 : decode cX2_copyFrom 10 = .ok (.getfield 36, 3) := by decide +kernel
theorem dX2_copyFrom_13 : decode cX2_copyFrom 13 = .ok (.putfield 36, 3) := by decide +kernel
theorem dX2_copyFrom_16 : decode cX2_copyFrom 16 = .ok (.aload_n 0, 1) := by decide +kernel
theorem dX2_copyFrom_17 : decode cX2_copyFrom 17 = .ok (.aload_n 1, 1) := by decide +kernel
theorem dX2_copyFrom_18 : decode cX2_copyFrom 18 = .ok (.getfield 39, 3) := by decide +kernel
theorem dX2_copyFrom_21 : decode cX2_copyFrom 21 = .ok (.putfield 39, 3) := by decide +kernel
theorem dX2_copyFrom_24 : decode cX2_copyFrom 24 = .ok (.iconst 0, 1) := by decide +kernel
theorem dX2_copyFrom_25 : decode cX2_copyFrom 25 = .ok (.istore_n 2, 1) := by decide +kernel
theorem dX2_copyFrom_26 : decode cX2_copyFrom 26 = .ok (.iload_n 2, 1) := by decide +kernel
theorem dX2_copyFrom_27 : decode cX2_copyFrom 27 = .ok (.iconst 3, 1) := by decide +kernel
theorem dX2_copyFrom_28 : decode cX2_copyFrom 28 = .ok (.if_icmp .ge 24, 3) := by decide +kernel
theorem dX2_copyFrom_31 : decode cX2_copyFrom 31 = .ok (.aload_n 0, 1) := by decide +kernel
theorem dX2_copyFrom_32 : decode cX2_copyFrom 32 = .ok (.getfield 11, 3) := by decide +kernel
theorem dX2_copyFrom_35 : decode cX2_copyFrom 35 = .ok (.iload_n 2, 1) := by decide +kernel
theorem dX2_copyFrom_36 : decode cX2_copyFrom 36 = .ok (.aaload, 1) := by decide +kernel
theorem dX2_copyFrom_37 : decode cX2_copyFrom 37 = .ok (.aload_n 1, 1) := by decide +kernel
theorem dX2_copyFrom_38 : decode cX2_copyFrom 38 = .ok (.getfield 11, 3) := by decide +kernel
theorem dX2_copyFrom_41 : decode cX2_copyFrom 41 = .ok (.iload_n 2, 1) := by decide +kernel
theorem dX2_copyFrom_42 : decode cX2_copyFrom 42 = .ok (.aaload, 1) := by decide +kernel
theorem dX2_copyFrom_43 : decode cX2_copyFrom 43 = .ok (.invokevirtual 42, 3) := by decide +kernel
theorem dX2_copyFrom_46 : decode cX2_copyFrom 46 = .ok (.iinc 2 1, 3) := by decide +kernel
theorem dX2_copyFrom_49 : decode cX2_copyFrom 49 = .ok (.goto (-23), 3) := by decide +kernel
theorem dX2_copyFrom_52 : decode cX2_copyFrom 52 = .ok (.aload_n 0, 1) := by decide +kernel
theorem dX2_copyFrom_53 : decode cX2_copyFrom 53 = .ok (.getfield 20, 3) := by decide +kernel
theorem dX2_copyFrom_56 : decode cX2_copyFrom 56 = .ok (.aload_n 1, 1) := by decide +kernel
theorem dX2_copyFrom_57 : decode cX2_copyFrom 57 = .ok (.getfield 20, 3) := by decide +kernel
theorem dX2_copyFrom_60 : decode cX2_copyFrom 60 = .ok (.invokevirtual 46, 3) := by decide +kernel
theorem dX2_copyFrom_63 : decode cX2_copyFrom 63 = .ok (.aload_n 0, 1) := by decide +kernel
theorem dX2_copyFrom_64 : decode cX2_copyFrom 64 = .ok (.getfield 27, 3) := by decide +kernel
theorem dX2_copyFrom_67 : decode cX2_copyFrom 67 = .ok (.aload_n 1, 1) := by decide +kernel
theorem dX2_copyFrom_68 : decode cX2_copyFrom 68 = .ok (.getfield 27, 3) := by decide +kernel
theorem dX2_copyFrom_71 : decode cX2_copyFrom 71 = .ok (.invokevirtual 49, 3) := by decide +kernel
theorem dX2_copyFrom_74 : decode cX2_copyFrom 74 = .ok (.return_, 1) := by decide +kernel
theorem dX2_canBegin_0 : decode cX2_canBegin 0 = .ok (.aload_n 0, 1) := by decide +kernel
theorem dX2_canBegin_1 : decode cX2_canBegin 1 = .ok (.getfield 27, 3) := by decide +kernel
theorem dX2_canBegin_4 : decode cX2_canBegin 4 = .ok (.getfield 52, 3) := by decide +kernel
theorem dX2_canBegin_7 : decode cX2_canBegin 7 = .ok (.bipush 40, 2) := by decide +kernel
theorem dX2_canBegin_9 : decode cX2_canBegin 9 = .ok (.if_icmp .ge 7, 3) := by decide +kernel
theorem dX2_canBegin_12 : decode cX2_canBegin 12 = .ok (.iconst 1, 1) := by decide +kernel
theorem dX2_canBegin_13 : decode cX2_canBegin 13 = .ok (.goto 4, 3) := by decide +kernel
theorem dX2_canBegin_16 : decode cX2_canBegin 16 = .ok (.iconst 0, 1) := by decide +kernel
theorem dX2_canBegin_17 : decode cX2_canBegin 17 = .ok (.ireturn, 1) := by decide +kernel
theorem dX2_beginAt_0 : decode cX2_beginAt 0 = .ok (.aload_n 0, 1) := by decide +kernel
theorem dX2_beginAt_1 : decode cX2_beginAt 1 = .ok (.getfield 27, 3) := by decide +kernel
theorem dX2_beginAt_4 : decode cX2_beginAt 4 = .ok (.iload_n 1, 1) := by decide +kernel
theorem dX2_beginAt_5 : decode cX2_beginAt 5 = .ok (.invokevirtual 55, 3) := by decide +kernel
theorem dX2_beginAt_8 : decode cX2_beginAt 8 = .ok (.ireturn, 1) := by decide +kernel
theorem dX2_readKey_0 : decode cX2_readKey 0 = .ok (.aload_n 0, 1) := by decide +kernel
theorem dX2_readKey_1 : decode cX2_readKey 1 = .ok (.getfield 27, 3) := by decide +kernel
theorem dX2_readKey_4 : decode cX2_readKey 4 = .ok (.iload_n 1, 1) := by decide +kernel
theorem dX2_readKey_5 : decode cX2_readKey 5 = .ok (.iload_n 2, 1) := by decide +kernel
theorem dX2_readKey_6 : decode cX2_readKey 6 = .ok (.invokevirtual 59, 3) := by decide +kernel
theorem dX2_readKey_9 : decode cX2_readKey 9 = .ok (.ifCond .eq 13, 3) := by decide +kernel
theorem dX2_readKey_12 : decode cX2_readKey 12 = .ok (.aload_n 0, 1) := by decide +kernel
theorem dX2_readKey_13 : decode cX2_readKey 13 = .ok (.getfield 27, 3) := by decide +kernel
theorem dX2_readKey_16 : decode cX2_readKey 16 = .ok (.iload_n 1, 1) := by decide +kernel
theorem dX2_readKey_17 : decode cX2_readKey 17 = .ok (.iload_n 2, 1) := by decide +kernel
theorem dX2_readKey_18 : decode cX2_readKey 18 = .ok (.invokevirtual 63, 3) := by decide +kernel
theorem dX2_readKey_21 : decode cX2_readKey 21 = .ok (.ireturn, 1) := by decide +kernel
theorem dX2_readKey_22 : decode cX2_readKey 22 = .ok (.aload_n 0, 1) := by decide +kernel
theorem dX2_readKey_23 : decode cX2_readKey 23 = .ok (.getfield 27, 3) := by decide +kernel
theorem dX2_readKey_26 : decode cX2_readKey 26 = .ok (.iload_n 1, 1) := by decide +kernel
theorem dX2_readKey_27 : decode cX2_readKey 27 = .ok (.iload_n 2, 1) := by decide +kernel
theorem dX2_readKey_28 : decode cX2_readKey 28 = .ok (.invokevirtual 67, 3) := by decide +kernel
theorem dX2_readKey_31 : decode cX2_readKey 31 = .ok (.ifCond .ne 20, 3) := by decide +kernel
theorem dX2_readKey_34 : decode cX2_readKey 34 = .ok (.aload_n 0, 1) := by decide +kernel
theorem dX2_readKey_35 : decode cX2_readKey 35 = .ok (.getfield 27, 3) := by decide +kernel
theorem dX2_readKey_38 : decode cX2_readKey 38 = .ok (.iload_n 1, 1) := by decide +kernel
theorem dX2_readKey_39 : decode cX2_readKey 39 = .ok (.iload_n 2, 1) := by decide +kernel
theorem dX2_readKey_40 : decode cX2_readKey 40 = .ok (.aload_n 0, 1) := by decide +kernel
theorem dX2_readKey_41 : decode cX2_readKey 41 = .ok (.getfield 20, 3) := by decide +kernel
theorem dX2_readKey_44 : decode cX2_readKey 44 = .ok (.iload_n 2, 1) := by decide +kernel
theorem dX2_readKey_45 : decode cX2_readKey 45 = .ok (.invokevirtual 70, 3) := by decide +kernel
theorem dX2_readKey_48 : decode cX2_readKey 48 = .ok (.invokevirtual 73, 3) := by decide +kernel
theorem dX2_readKey_51 : decode cX2_readKey 51 = .ok (.aload_n 0, 1) := by decide +kernel
theorem dX2_readKey_52 : decode cX2_readKey 52 = .ok (.getfield 20, 3) := by decide +kernel
theorem dX2_readKey_55 : decode cX2_readKey 55 = .ok (.iload_n 2, 1) := by decide +kernel
theorem dX2_readKey_56 : decode cX2_readKey 56 = .ok (.aload_n 0, 1) := by decide +kernel
theorem dX2_readKey_57 : decode cX2_readKey 57 = .ok (.getfield 27, 3) := by decide +kernel
theorem dX2_readKey_60 : decode cX2_readKey 60 = .ok (.iload_n 1, 1) := by decide +kernel
theorem dX2_readKey_61 : decode cX2_readKey 61 = .ok (.iload_n 2, 1) := by decide +kernel
theorem dX2_readKey_62 : decode cX2_readKey 62 = .ok (.invokevirtual 77, 3) := by decide +kernel
theorem dX2_readKey_65 : decode cX2_readKey 65 = .ok (.invokevirtual 80, 3) := by decide +kernel
theorem dX2_readKey_68 : decode cX2_readKey 68 = .ok (.ireturn, 1) := by decide +kernel
theorem dX2_writeKey_0 : decode cX2_writeKey 0 = .ok (.aload_n 0, 1) := by decide +kernel
theorem dX2_writeKey_1 : decode cX2_writeKey 1 = .ok (.getfield 27, 3) := by decide +kernel
theorem dX2_writeKey_4 : decode cX2_writeKey 4 = .ok (.iload_n 1, 1) := by decide +kernel
theorem dX2_writeKey_5 : decode cX2_writeKey 5 = .ok (.iload_n 2, 1) := by decide +kernel
theorem dX2_writeKey_6 : decode cX2_writeKey 6 = .ok (.iload_n 3, 1) := by decide +kernel
theorem dX2_writeKey_7 : decode cX2_writeKey 7 = .ok (.invokevirtual 83, 3) := by decide +kernel
theorem dX2_writeKey_10 : decode cX2_writeKey 10 = .ok (.aload_n 0, 1) := by decide +kernel
theorem dX2_writeKey_11 : decode cX2_writeKey 11 = .ok (.getfield 27, 3) := by decide +kernel
theorem dX2_writeKey_14 : decode cX2_writeKey 14 = .ok (.iload_n 1, 1) := by decide +kernel
theorem dX2_writeKey_15 : decode cX2_writeKey 15 = .ok (.invokevirtual 86, 3) := by decide +kernel
theorem dX2_writeKey_18 : decode cX2_writeKey 18 = .ok (.ireturn, 1) := by decide +kernel
theorem dX2_commitOutcome_0 : decode cX2_commitOutcome 0 = .ok (.aload_n 0, 1) := by decide +kernel
theorem dX2_commitOutcome_1 : decode cX2_commitOutcome 1 = .ok (.iload_n 1, 1) := by decide +kernel
theorem dX2_commitOutcome_2 : decode cX2_commitOutcome 2 = .ok (.invokevirtual 89, 3) := by decide +kernel
theorem dX2_commitOutcome_5 : decode cX2_commitOutcome 5 = .ok (.ifCond .eq 6, 3) := by decide +kernel
theorem dX2_commitOutcome_8 : decode cX2_commitOutcome 8 = .ok (.bipush (-2), 2) := by decide +kernel
theorem dX2_commitOutcome_10 : decode cX2_commitOutcome 10 = .ok (.ireturn, 1) := by decide +kernel
theorem dX2_commitOutcome_11 : decode cX2_commitOutcome 11 = .ok (.aload_n 0, 1) := by decide +kernel
theorem dX2_commitOutcome_12 : decode cX2_commitOutcome 12 = .ok (.getfield 27, 3) := by decide +kernel
theorem dX2_commitOutcome_15 : decode cX2_commitOutcome 15 = .ok (.iload_n 1, 1) := by decide +kernel
theorem dX2_commitOutcome_16 : decode cX2_commitOutcome 16 = .ok (.invokevirtual 93, 3) := by decide +kernel
theorem dX2_commitOutcome_19 : decode cX2_commitOutcome 19 = .ok (.ifCond .eq 6, 3) := by decide +kernel
theorem dX2_commitOutcome_22 : decode cX2_commitOutcome 22 = .ok (.bipush (-3), 2) := by decide +kernel
theorem dX2_commitOutcome_24 : decode cX2_commitOutcome 24 = .ok (.ireturn, 1) := by decide +kernel
theorem dX2_commitOutcome_25 : decode cX2_commitOutcome 25 = .ok (.aload_n 0, 1) := by decide +kernel
theorem dX2_commitOutcome_26 : decode cX2_commitOutcome 26 = .ok (.aload_n 0, 1) := by decide +kernel
theorem dX2_commitOutcome_27 : decode cX2_commitOutcome 27 = .ok (.getfield 27, 3) := by decide +kernel
theorem dX2_commitOutcome_30 : decode cX2_commitOutcome 30 = .ok (.getfield 96, 3) := by decide +kernel
theorem dX2_commitOutcome_33 : decode cX2_commitOutcome 33 = .ok (.iload_n 1, 1) := by decide +kernel
theorem dX2_commitOutcome_34 : decode cX2_commitOutcome 34 = .ok (.iaload, 1) := by decide +kernel
theorem dX2_commitOutcome_35 : decode cX2_commitOutcome 35 = .ok (.invokevirtual 100, 3) := by decide +kernel
theorem dX2_commitOutcome_38 : decode cX2_commitOutcome 38 = .ok (.istore_n 2, 1) := by decide +kernel
theorem dX2_commitOutcome_39 : decode cX2_commitOutcome 39 = .ok (.iconst 0, 1) := by decide +kernel
theorem dX2_commitOutcome_40 : decode cX2_commitOutcome 40 = .ok (.istore_n 3, 1) := by decide +kernel
theorem dX2_commitOutcome_41 : decode cX2_commitOutcome 41 = .ok (.iload_n 3, 1) := by decide +kernel
theorem dX2_commitOutcome_42 : decode cX2_commitOutcome 42 = .ok (.bipush 8, 2) := by decide +kernel
theorem dX2_commitOutcome_44 : decode cX2_commitOutcome 44 = .ok (.if_icmp .ge 71, 3) := by decide +kernel
theorem dX2_commitOutcome_47 : decode cX2_commitOutcome 47 = .ok (.aload_n 0, 1) := by decide +kernel
theorem dX2_commitOutcome_48 : decode cX2_commitOutcome 48 = .ok (.getfield 27, 3) := by decide +kernel
theorem dX2_commitOutcome_51 : decode cX2_commitOutcome 51 = .ok (.iload_n 1, 1) := by decide +kernel
theorem dX2_commitOutcome_52 : decode cX2_commitOutcome 52 = .ok (.iload_n 3, 1) := by decide +kernel
theorem dX2_commitOutcome_53 : decode cX2_commitOutcome 53 = .ok (.invokevirtual 103, 3) := by decide +kernel
theorem dX2_commitOutcome_56 : decode cX2_commitOutcome 56 = .ok (.ifCond .eq 26, 3) := by decide +kernel
theorem dX2_commitOutcome_59 : decode cX2_commitOutcome 59 = .ok (.iload_n 2, 1) := by decide +kernel
theorem dX2_commitOutcome_60 : decode cX2_commitOutcome 60 = .ok (.iconst 1, 1) := by decide +kernel
theorem dX2_commitOutcome_61 : decode cX2_commitOutcome 61 = .ok (.aload_n 0, 1) := by decide +kernel
theorem dX2_commitOutcome_62 : decode cX2_commitOutcome 62 = .ok (.getfield 20, 3) := by decide +kernel
theorem dX2_commitOutcome_65 : decode cX2_commitOutcome 65 = .ok (.iload_n 3, 1) := by decide +kernel
theorem dX2_commitOutcome_66 : decode cX2_commitOutcome 66 = .ok (.aload_n 0, 1) := by decide +kernel
theorem dX2_commitOutcome_67 : decode cX2_commitOutcome 67 = .ok (.getfield 20, 3) := by decide +kernel
theorem dX2_commitOutcome_70 : decode cX2_commitOutcome 70 = .ok (.iload_n 3, 1) := by decide +kernel
theorem dX2_commitOutcome_71 : decode cX2_commitOutcome 71 = .ok (.invokevirtual 70, 3) := by decide +kernel
theorem dX2_commitOutcome_74 : decode cX2_commitOutcome 74 = .ok (.invokevirtual 106, 3) := by decide +kernel
theorem dX2_commitOutcome_77 : decode cX2_commitOutcome 77 = .ok (.iadd, 1) := by decide +kernel
theorem dX2_commitOutcome_78 : decode cX2_commitOutcome 78 = .ok (.invokestatic 109, 3) := by decide +kernel
theorem dX2_commitOutcome_81 : decode cX2_commitOutcome 81 = .ok (.istore_n 2, 1) := by decide +kernel
theorem dX2_commitOutcome_82 : decode cX2_commitOutcome 82 = .ok (.aload_n 0, 1) := by decide +kernel
theorem dX2_commitOutcome_83 : decode cX2_commitOutcome 83 = .ok (.getfield 27, 3) := by decide +kernel
theorem dX2_commitOutcome_86 : decode cX2_commitOutcome 86 = .ok (.iload_n 1, 1) := by decide +kernel
theorem dX2_commitOutcome_87 : decode cX2_commitOutcome 87 = .ok (.iload_n 3, 1) := by decide +kernel
theorem dX2_commitOutcome_88 : decode cX2_commitOutcome 88 = .ok (.invokevirtual 59, 3) := by decide +kernel
theorem dX2_commitOutcome_91 : decode cX2_commitOutcome 91 = .ok (.ifCond .eq 18, 3) := by decide +kernel
theorem dX2_commitOutcome_94 : decode cX2_commitOutcome 94 = .ok (.iload_n 2, 1) := by decide +kernel
theorem dX2_commitOutcome_95 : decode cX2_commitOutcome 95 = .ok (.iconst 1, 1) := by decide +kernel
theorem dX2_commitOutcome_96 : decode cX2_commitOutcome 96 = .ok (.aload_n 0, 1) := by decide +kernel
theorem dX2_commitOutcome_97 : decode cX2_commitOutcome 97 = .ok (.getfield 27, 3) := by decide +kernel
theorem dX2_commitOutcome_100 : decode cX2_commitOutcome 100 = .ok (.iload_n 3, 1) := by decide +kernel
theorem dX2_commitOutcome_101 : decode cX2_commitOutcome 101 = .ok (.invokevirtual 114, 3) := by decide +kernel
theorem dX2_commitOutcome_104 : decode cX2_commitOutcome 104 = .ok (.iadd, 1) := by decide +kernel
theorem dX2_commitOutcome_105 : decode cX2_commitOutcome 105 = .ok (.invokestatic 109, 3) := by decide +kernel
theorem dX2_commitOutcome_108 : decode cX2_commitOutcome 108 = .ok (.istore_n 2, 1) := by decide +kernel
theorem dX2_commitOutcome_109 : decode cX2_commitOutcome 109 = .ok (.iinc 3 1, 3) := by decide +kernel
theorem dX2_commitOutcome_112 : decode cX2_commitOutcome 112 = .ok (.goto (-71), 3) := by decide +kernel
theorem dX2_commitOutcome_115 : decode cX2_commitOutcome 115 = .ok (.iload_n 2, 1) := by decide +kernel
theorem dX2_commitOutcome_116 : decode cX2_commitOutcome 116 = .ok (.ireturn, 1) := by decide +kernel
theorem dX2_hasConflict_0 : decode cX2_hasConflict 0 = .ok (.iconst 0, 1) := by decide +kernel
theorem dX2_hasConflict_1 : decode cX2_hasConflict 1 = .ok (.istore_n 2, 1) := by decide +kernel
theorem dX2_hasConflict_2 : decode cX2_hasConflict 2 = .ok (.iload_n 2, 1) := by decide +kernel
theorem dX2_hasConflict_3 : decode cX2_hasConflict 3 = .ok (.bipush 8, 2) := by decide +kernel
theorem dX2_hasConflict_5 : decode cX2_hasConflict 5 = .ok (.if_icmp .ge 43, 3) := by decide +kernel
theorem dX2_hasConflict_8 : decode cX2_hasConflict 8 = .ok (.aload_n 0, 1) := by decide +kernel
theorem dX2_hasConflict_9 : decode cX2_hasConflict 9 = .ok (.getfield 27, 3) := by decide +kernel
theorem dX2_hasConflict_12 : decode cX2_hasConflict 12 = .ok (.iload_n 1, 1) := by decide +kernel
theorem dX2_hasConflict_13 : decode cX2_hasConflict 13 = .ok (.iload_n 2, 1) := by decide +kernel
theorem dX2_hasConflict_14 : decode cX2_hasConflict 14 = .ok (.invokevirtual 67, 3) := by decide +kernel
theorem dX2_hasConflict_17 : decode cX2_hasConflict 17 = .ok (.ifCond .eq 25, 3) := by decide +kernel
theorem dX2_hasConflict_20 : decode cX2_hasConflict 20 = .ok (.aload_n 0, 1) := by decide +kernel
theorem dX2_hasConflict_21 : decode cX2_hasConflict 21 = .ok (.getfield 27, 3) := by decide +kernel
theorem dX2_hasConflict_24 : decode cX2_hasConflict 24 = .ok (.iload_n 1, 1) := by decide +kernel
theorem dX2_hasConflict_25 : decode cX2_hasConflict 25 = .ok (.iload_n 2, 1) := by decide +kernel
theorem dX2_hasConflict_26 : decode cX2_hasConflict 26 = .ok (.invokevirtual 77, 3) := by decide +kernel
theorem dX2_hasConflict_29 : decode cX2_hasConflict 29 = .ok (.aload_n 0, 1) := by decide +kernel
theorem dX2_hasConflict_30 : decode cX2_hasConflict 30 = .ok (.getfield 20, 3) := by decide +kernel
theorem dX2_hasConflict_33 : decode cX2_hasConflict 33 = .ok (.iload_n 2, 1) := by decide +kernel
theorem dX2_hasConflict_34 : decode cX2_hasConflict 34 = .ok (.invokevirtual 70, 3) := by decide +kernel
theorem dX2_hasConflict_37 : decode cX2_hasConflict 37 = .ok (.if_icmp .eq 5, 3) := by decide +kernel
theorem dX2_hasConflict_40 : decode cX2_hasConflict 40 = .ok (.iconst 1, 1) := by decide +kernel
theorem dX2_hasConflict_41 : decode cX2_hasConflict 41 = .ok (.ireturn, 1) := by decide +kernel
theorem dX2_hasConflict_42 : decode cX2_hasConflict 42 = .ok (.iinc 2 1, 3) := by decide +kernel
theorem dX2_hasConflict_45 : decode cX2_hasConflict 45 = .ok (.goto (-43), 3) := by decide +kernel
theorem dX2_hasConflict_48 : decode cX2_hasConflict 48 = .ok (.iconst 0, 1) := by decide +kernel
theorem dX2_hasConflict_49 : decode cX2_hasConflict 49 = .ok (.ireturn, 1) := by decide +kernel
theorem dX2_carryOut_0 : decode cX2_carryOut 0 = .ok (.iload_n 1, 1) := by decide +kernel
theorem dX2_carryOut_1 : decode cX2_carryOut 1 = .ok (.bipush (-2), 2) := by decide +kernel
theorem dX2_carryOut_3 : decode cX2_carryOut 3 = .ok (.if_icmp .ne 12, 3) := by decide +kernel
theorem dX2_carryOut_6 : decode cX2_carryOut 6 = .ok (.aload_n 0, 1) := by decide +kernel
theorem dX2_carryOut_7 : decode cX2_carryOut 7 = .ok (.iload_n 2, 1) := by decide +kernel
theorem dX2_carryOut_8 : decode cX2_carryOut 8 = .ok (.invokevirtual 117, 3) := by decide +kernel
theorem dX2_carryOut_11 : decode cX2_carryOut 11 = .ok (.pop, 1) := by decide +kernel
theorem dX2_carryOut_12 : decode cX2_carryOut 12 = .ok (.goto 15, 3) := by decide +kernel
theorem dX2_carryOut_15 : decode cX2_carryOut 15 = .ok (.iload_n 1, 1) := by decide +kernel
theorem dX2_carryOut_16 : decode cX2_carryOut 16 = .ok (.bipush (-3), 2) := by decide +kernel
theorem dX2_carryOut_18 : decode cX2_carryOut 18 = .ok (.if_icmp .eq 9, 3) := by decide +kernel
theorem dX2_carryOut_21 : decode cX2_carryOut 21 = .ok (.aload_n 0, 1) := by decide +kernel
theorem dX2_carryOut_22 : decode cX2_carryOut 22 = .ok (.iload_n 2, 1) := by decide +kernel
theorem dX2_carryOut_23 : decode cX2_carryOut 23 = .ok (.iload_n 1, 1) := by decide +kernel
theorem dX2_carryOut_24 : decode cX2_carryOut 24 = .ok (.invokevirtual 120, 3) := by decide +kernel
theorem dX2_carryOut_27 : decode cX2_carryOut 27 = .ok (.return_, 1) := by decide +kernel
theorem dX2_makeAborted_0 : decode cX2_makeAborted 0 = .ok (.aload_n 0, 1) := by decide +kernel
theorem dX2_makeAborted_1 : decode cX2_makeAborted 1 = .ok (.getfield 27, 3) := by decide +kernel
theorem dX2_makeAborted_4 : decode cX2_makeAborted 4 = .ok (.getfield 124, 3) := by decide +kernel
theorem dX2_makeAborted_7 : decode cX2_makeAborted 7 = .ok (.iload_n 1, 1) := by decide +kernel
theorem dX2_makeAborted_8 : decode cX2_makeAborted 8 = .ok (.iconst 3, 1) := by decide +kernel
theorem dX2_makeAborted_9 : decode cX2_makeAborted 9 = .ok (.iastore, 1) := by decide +kernel
theorem dX2_makeAborted_10 : decode cX2_makeAborted 10 = .ok (.aload_n 0, 1) := by decide +kernel
theorem dX2_makeAborted_11 : decode cX2_makeAborted 11 = .ok (.getfield 27, 3) := by decide +kernel
theorem dX2_makeAborted_14 : decode cX2_makeAborted 14 = .ok (.iload_n 1, 1) := by decide +kernel
theorem dX2_makeAborted_15 : decode cX2_makeAborted 15 = .ok (.invokevirtual 86, 3) := by decide +kernel
theorem dX2_makeAborted_18 : decode cX2_makeAborted 18 = .ok (.ireturn, 1) := by decide +kernel
theorem dX2_makeWaiting_0 : decode cX2_makeWaiting 0 = .ok (.aload_n 0, 1) := by decide +kernel
theorem dX2_makeWaiting_1 : decode cX2_makeWaiting 1 = .ok (.getfield 27, 3) := by decide +kernel
theorem dX2_makeWaiting_4 : decode cX2_makeWaiting 4 = .ok (.getfield 96, 3) := by decide +kernel
theorem dX2_makeWaiting_7 : decode cX2_makeWaiting 7 = .ok (.iload_n 1, 1) := by decide +kernel
theorem dX2_makeWaiting_8 : decode cX2_makeWaiting 8 = .ok (.iaload, 1) := by decide +kernel
theorem dX2_makeWaiting_9 : decode cX2_makeWaiting 9 = .ok (.istore_n 3, 1) := by decide +kernel
theorem dX2_makeWaiting_10 : decode cX2_makeWaiting 10 = .ok (.aload_n 0, 1) := by decide +kernel
theorem dX2_makeWaiting_11 : decode cX2_makeWaiting 11 = .ok (.getfield 27, 3) := by decide +kernel
theorem dX2_makeWaiting_14 : decode cX2_makeWaiting 14 = .ok (.getfield 124, 3) := by decide +kernel
theorem dX2_makeWaiting_17 : decode cX2_makeWaiting 17 = .ok (.iload_n 1, 1) := by decide +kernel
theorem dX2_makeWaiting_18 : decode cX2_makeWaiting 18 = .ok (.iconst 1, 1) := by decide +kernel
theorem dX2_makeWaiting_19 : decode cX2_makeWaiting 19 = .ok (.iastore, 1) := by decide +kernel
theorem dX2_makeWaiting_20 : decode cX2_makeWaiting 20 = .ok (.aload_n 0, 1) := by decide +kernel
theorem dX2_makeWaiting_21 : decode cX2_makeWaiting 21 = .ok (.getfield 27, 3) := by decide +kernel
theorem dX2_makeWaiting_24 : decode cX2_makeWaiting 24 = .ok (.getfield 127, 3) := by decide +kernel
theorem dX2_makeWaiting_27 : decode cX2_makeWaiting 27 = .ok (.iload_n 1, 1) := by decide +kernel
theorem dX2_makeWaiting_28 : decode cX2_makeWaiting 28 = .ok (.iload_n 2, 1) := by decide +kernel
theorem dX2_makeWaiting_29 : decode cX2_makeWaiting 29 = .ok (.iastore, 1) := by decide +kernel
theorem dX2_makeWaiting_30 : decode cX2_makeWaiting 30 = .ok (.aload_n 0, 1) := by decide +kernel
theorem dX2_makeWaiting_31 : decode cX2_makeWaiting 31 = .ok (.getfield 27, 3) := by decide +kernel
theorem dX2_makeWaiting_34 : decode cX2_makeWaiting 34 = .ok (.getfield 130, 3) := by decide +kernel
theorem dX2_makeWaiting_37 : decode cX2_makeWaiting 37 = .ok (.iload_n 1, 1) := by decide +kernel
theorem dX2_makeWaiting_38 : decode cX2_makeWaiting 38 = .ok (.aload_n 0, 1) := by decide +kernel
theorem dX2_makeWaiting_39 : decode cX2_makeWaiting 39 = .ok (.getfield 32, 3) := by decide +kernel
theorem dX2_makeWaiting_42 : decode cX2_makeWaiting 42 = .ok (.iastore, 1) := by decide +kernel
theorem dX2_makeWaiting_43 : decode cX2_makeWaiting 43 = .ok (.aload_n 0, 1) := by decide +kernel
theorem dX2_makeWaiting_44 : decode cX2_makeWaiting 44 = .ok (.getfield 11, 3) := by decide +kernel
theorem dX2_makeWaiting_47 : decode cX2_makeWaiting 47 = .ok (.iload_n 3, 1) := by decide +kernel
theorem dX2_makeWaiting_48 : decode cX2_makeWaiting 48 = .ok (.aaload, 1) := by decide +kernel
theorem dX2_makeWaiting_49 : decode cX2_makeWaiting 49 = .ok (.iload_n 2, 1) := by decide +kernel
theorem dX2_makeWaiting_50 : decode cX2_makeWaiting 50 = .ok (.putfield 133, 3) := by decide +kernel
theorem dX2_makeWaiting_53 : decode cX2_makeWaiting 53 = .ok (.aload_n 0, 1) := by decide +kernel
theorem dX2_makeWaiting_54 : decode cX2_makeWaiting 54 = .ok (.dup, 1) := by decide +kernel
theorem dX2_makeWaiting_55 : decode cX2_makeWaiting 55 = .ok (.getfield 39, 3) := by decide +kernel
theorem dX2_makeWaiting_58 : decode cX2_makeWaiting 58 = .ok (.aload_n 0, 1) := by decide +kernel
theorem dX2_makeWaiting_59 : decode cX2_makeWaiting 59 = .ok (.getfield 11, 3) := by decide +kernel
theorem dX2_makeWaiting_62 : decode cX2_makeWaiting 62 = .ok (.iload_n 3, 1) := by decide +kernel
theorem dX2_makeWaiting_63 : decode cX2_makeWaiting 63 = .ok (.aaload, 1) := by decide +kernel
theorem dX2_makeWaiting_64 : decode cX2_makeWaiting 64 = .ok (.aload_n 0, 1) := by decide +kernel
theorem dX2_makeWaiting_65 : decode cX2_makeWaiting 65 = .ok (.getfield 32, 3) := by decide +kernel
theorem dX2_makeWaiting_68 : decode cX2_makeWaiting 68 = .ok (.invokevirtual 136, 3) := by decide +kernel
theorem dX2_makeWaiting_71 : decode cX2_makeWaiting 71 = .ok (.ifCond .eq 7, 3) := by decide +kernel
theorem dX2_makeWaiting_74 : decode cX2_makeWaiting 74 = .ok (.iconst 0, 1) := by decide +kernel
theorem dX2_makeWaiting_75 : decode cX2_makeWaiting 75 = .ok (.goto 4, 3) := by decide +kernel
theorem dX2_makeWaiting_78 : decode cX2_makeWaiting 78 = .ok (.iconst 1, 1) := by decide +kernel
theorem dX2_makeWaiting_79 : decode cX2_makeWaiting 79 = .ok (.iadd, 1) := by decide +kernel
theorem dX2_makeWaiting_80 : decode cX2_makeWaiting 80 = .ok (.putfield 39, 3) := by decide +kernel
theorem dX2_makeWaiting_83 : decode cX2_makeWaiting 83 = .ok (.return_, 1) := by decide +kernel
theorem dX2_makeCommitted_0 : decode cX2_makeCommitted 0 = .ok (.aload_n 0, 1) := by decide +kernel
theorem dX2_makeCommitted_1 : decode cX2_makeCommitted 1 = .ok (.getfield 27, 3) := by decide +kernel
theorem dX2_makeCommitted_4 : decode cX2_makeCommitted 4 = .ok (.getfield 124, 3) := by decide +kernel
theorem dX2_makeCommitted_7 : decode cX2_makeCommitted 7 = .ok (.iload_n 1, 1) := by decide +kernel
theorem dX2_makeCommitted_8 : decode cX2_makeCommitted 8 = .ok (.iconst 2, 1) := by decide +kernel
theorem dX2_makeCommitted_9 : decode cX2_makeCommitted 9 = .ok (.iastore, 1) := by decide +kernel
theorem dX2_makeCommitted_10 : decode cX2_makeCommitted 10 = .ok (.aload_n 0, 1) := by decide +kernel
theorem dX2_makeCommitted_11 : decode cX2_makeCommitted 11 = .ok (.getfield 27, 3) := by decide +kernel
theorem dX2_makeCommitted_14 : decode cX2_makeCommitted 14 = .ok (.getfield 139, 3) := by decide +kernel
theorem dX2_makeCommitted_17 : decode cX2_makeCommitted 17 = .ok (.iload_n 1, 1) := by decide +kernel
theorem dX2_makeCommitted_18 : decode cX2_makeCommitted 18 = .ok (.iload_n 2, 1) := by decide +kernel
theorem dX2_makeCommitted_19 : decode cX2_makeCommitted 19 = .ok (.iastore, 1) := by decide +kernel
theorem dX2_makeCommitted_20 : decode cX2_makeCommitted 20 = .ok (.iconst 0, 1) := by decide +kernel
theorem dX2_makeCommitted_21 : decode cX2_makeCommitted 21 = .ok (.istore_n 3, 1) := by decide +kernel
theorem dX2_makeCommitted_22 : decode cX2_makeCommitted 22 = .ok (.iload_n 3, 1) := by decide +kernel
theorem dX2_makeCommitted_23 : decode cX2_makeCommitted 23 = .ok (.bipush 8, 2) := by decide +kernel
theorem dX2_makeCommitted_25 : decode cX2_makeCommitted 25 = .ok (.if_icmp .ge 47, 3) := by decide +kernel
theorem dX2_makeCommitted_28 : decode cX2_makeCommitted 28 = .ok (.aload_n 0, 1) := by decide +kernel
theorem dX2_makeCommitted_29 : decode cX2_makeCommitted 29 = .ok (.getfield 27, 3) := by decide +kernel
theorem dX2_makeCommitted_32 : decode cX2_makeCommitted 32 = .ok (.iload_n 1, 1) := by decide +kernel
theorem dX2_makeCommitted_33 : decode cX2_makeCommitted 33 = .ok (.iload_n 3, 1) := by decide +kernel
theorem dX2_makeCommitted_34 : decode cX2_makeCommitted 34 = .ok (.invokevirtual 59, 3) := by decide +kernel
theorem dX2_makeCommitted_37 : decode cX2_makeCommitted 37 = .ok (.ifCond .eq 29, 3) := by decide +kernel
theorem dX2_makeCommitted_40 : decode cX2_makeCommitted 40 = .ok (.aload_n 0, 1) := by decide +kernel
theorem dX2_makeCommitted_41 : decode cX2_makeCommitted 41 = .ok (.getfield 20, 3) := by decide +kernel
theorem dX2_makeCommitted_44 : decode cX2_makeCommitted 44 = .ok (.iload_n 3, 1) := by decide +kernel
theorem dX2_makeCommitted_45 : decode cX2_makeCommitted 45 = .ok (.aload_n 0, 1) := by decide +kernel
theorem dX2_makeCommitted_46 : decode cX2_makeCommitted 46 = .ok (.getfield 27, 3) := by decide +kernel
theorem dX2_makeCommitted_49 : decode cX2_makeCommitted 49 = .ok (.getfield 127, 3) := by decide +kernel
theorem dX2_makeCommitted_52 : decode cX2_makeCommitted 52 = .ok (.iload_n 1, 1) := by decide +kernel
theorem dX2_makeCommitted_53 : decode cX2_makeCommitted 53 = .ok (.iaload, 1) := by decide +kernel
theorem dX2_makeCommitted_54 : decode cX2_makeCommitted 54 = .ok (.aload_n 0, 1) := by decide +kernel
theorem dX2_makeCommitted_55 : decode cX2_makeCommitted 55 = .ok (.getfield 27, 3) := by decide +kernel
theorem dX2_makeCommitted_58 : decode cX2_makeCommitted 58 = .ok (.iload_n 1, 1) := by decide +kernel
theorem dX2_makeCommitted_59 : decode cX2_makeCommitted 59 = .ok (.iload_n 3, 1) := by decide +kernel
theorem dX2_makeCommitted_60 : decode cX2_makeCommitted 60 = .ok (.invokevirtual 63, 3) := by decide +kernel
theorem dX2_makeCommitted_63 : decode cX2_makeCommitted 63 = .ok (.invokevirtual 142, 3) := by decide +kernel
theorem dX2_makeCommitted_66 : decode cX2_makeCommitted 66 = .ok (.iinc 3 1, 3) := by decide +kernel
theorem dX2_makeCommitted_69 : decode cX2_makeCommitted 69 = .ok (.goto (-47), 3) := by decide +kernel
theorem dX2_makeCommitted_72 : decode cX2_makeCommitted 72 = .ok (.aload_n 0, 1) := by decide +kernel
theorem dX2_makeCommitted_73 : decode cX2_makeCommitted 73 = .ok (.dup, 1) := by decide +kernel
theorem dX2_makeCommitted_74 : decode cX2_makeCommitted 74 = .ok (.getfield 39, 3) := by decide +kernel
theorem dX2_makeCommitted_77 : decode cX2_makeCommitted 77 = .ok (.aload_n 0, 1) := by decide +kernel
theorem dX2_makeCommitted_78 : decode cX2_makeCommitted 78 = .ok (.getfield 11, 3) := by decide +kernel
theorem dX2_makeCommitted_81 : decode cX2_makeCommitted 81 = .ok (.aload_n 0, 1) := by decide +kernel
theorem dX2_makeCommitted_82 : decode cX2_makeCommitted 82 = .ok (.getfield 27, 3) := by decide +kernel
theorem dX2_makeCommitted_85 : decode cX2_makeCommitted 85 = .ok (.getfield 96, 3) := by decide +kernel
theorem dX2_makeCommitted_88 : decode cX2_makeCommitted 88 = .ok (.iload_n 1, 1) := by decide +kernel
theorem dX2_makeCommitted_89 : decode cX2_makeCommitted 89 = .ok (.iaload, 1) := by decide +kernel
theorem dX2_makeCommitted_90 : decode cX2_makeCommitted 90 = .ok (.aaload, 1) := by decide +kernel
theorem dX2_makeCommitted_91 : decode cX2_makeCommitted 91 = .ok (.iload_n 2, 1) := by decide +kernel
theorem dX2_makeCommitted_92 : decode cX2_makeCommitted 92 = .ok (.invokevirtual 136, 3) := by decide +kernel
theorem dX2_makeCommitted_95 : decode cX2_makeCommitted 95 = .ok (.ifCond .eq 7, 3) := by decide +kernel
theorem dX2_makeCommitted_98 : decode cX2_makeCommitted 98 = .ok (.iconst 0, 1) := by decide +kernel
theorem dX2_makeCommitted_99 : decode cX2_makeCommitted 99 = .ok (.goto 4, 3) := by decide +kernel
theorem dX2_makeCommitted_102 : decode cX2_makeCommitted 102 = .ok (.iconst 1, 1) := by decide +kernel
theorem dX2_makeCommitted_103 : decode cX2_makeCommitted 103 = .ok (.iadd, 1) := by decide +kernel
theorem dX2_makeCommitted_104 : decode cX2_makeCommitted 104 = .ok (.putfield 39, 3) := by decide +kernel
theorem dX2_makeCommitted_107 : decode cX2_makeCommitted 107 = .ok (.return_, 1) := by decide +kernel
theorem dX2_canAdvance_0 : decode cX2_canAdvance 0 = .ok (.aload_n 0, 1) := by decide +kernel
theorem dX2_canAdvance_1 : decode cX2_canAdvance 1 = .ok (.getfield 32, 3) := by decide +kernel
theorem dX2_canAdvance_4 : decode cX2_canAdvance 4 = .ok (.iload_n 1, 1) := by decide +kernel
theorem dX2_canAdvance_5 : decode cX2_canAdvance 5 = .ok (.iadd, 1) := by decide +kernel
theorem dX2_canAdvance_6 : decode cX2_canAdvance 6 = .ok (.ldc 144, 2) := by decide +kernel
theorem dX2_canAdvance_8 : decode cX2_canAdvance 8 = .ok (.if_icmp .gt 7, 3) := by decide +kernel
theorem dX2_canAdvance_11 : decode cX2_canAdvance 11 = .ok (.iconst 1, 1) := by decide +kernel
theorem dX2_canAdvance_12 : decode cX2_canAdvance 12 = .ok (.goto 4, 3) := by decide +kernel
theorem dX2_canAdvance_15 : decode cX2_canAdvance 15 = .ok (.iconst 0, 1) := by decide +kernel
theorem dX2_canAdvance_16 : decode cX2_canAdvance 16 = .ok (.ireturn, 1) := by decide +kernel
theorem dX2_advanceBy_0 : decode cX2_advanceBy 0 = .ok (.iconst 0, 1) := by decide +kernel
theorem dX2_advanceBy_1 : decode cX2_advanceBy 1 = .ok (.istore_n 2, 1) := by decide +kernel
theorem dX2_advanceBy_2 : decode cX2_advanceBy 2 = .ok (.iconst 0, 1) := by decide +kernel
theorem dX2_advanceBy_3 : decode cX2_advanceBy 3 = .ok (.istore_n 3, 1) := by decide +kernel
theorem dX2_advanceBy_4 : decode cX2_advanceBy 4 = .ok (.iload_n 3, 1) := by decide +kernel
theorem dX2_advanceBy_5 : decode cX2_advanceBy 5 = .ok (.aload_n 0, 1) := by decide +kernel
theorem dX2_advanceBy_6 : decode cX2_advanceBy 6 = .ok (.getfield 27, 3) := by decide +kernel
theorem dX2_advanceBy_9 : decode cX2_advanceBy 9 = .ok (.getfield 52, 3) := by decide +kernel
theorem dX2_advanceBy_12 : decode cX2_advanceBy 12 = .ok (.if_icmp .ge 51, 3) := by decide +kernel
theorem dX2_advanceBy_15 : decode cX2_advanceBy 15 = .ok (.aload_n 0, 1) := by decide +kernel
theorem dX2_advanceBy_16 : decode cX2_advanceBy 16 = .ok (.getfield 27, 3) := by decide +kernel
theorem dX2_advanceBy_19 : decode cX2_advanceBy 19 = .ok (.getfield 124, 3) := by decide +kernel
theorem dX2_advanceBy_22 : decode cX2_advanceBy 22 = .ok (.iload_n 3, 1) := by decide +kernel
theorem dX2_advanceBy_23 : decode cX2_advanceBy 23 = .ok (.iaload, 1) := by decide +kernel
theorem dX2_advanceBy_24 : decode cX2_advanceBy 24 = .ok (.iconst 1, 1) := by decide +kernel
theorem dX2_advanceBy_25 : decode cX2_advanceBy 25 = .ok (.if_icmp .ne 32, 3) := by decide +kernel
theorem dX2_advanceBy_28 : decode cX2_advanceBy 28 = .ok (.aload_n 0, 1) := by decide +kernel
theorem dX2_advanceBy_29 : decode cX2_advanceBy 29 = .ok (.iload_n 3, 1) := by decide +kernel
theorem dX2_advanceBy_30 : decode cX2_advanceBy 30 = .ok (.iload_n 1, 1) := by decide +kernel
theorem dX2_advanceBy_31 : decode cX2_advanceBy 31 = .ok (.invokevirtual 145, 3) := by decide +kernel
theorem dX2_advanceBy_34 : decode cX2_advanceBy 34 = .ok (.istore 4, 2) := by decide +kernel
theorem dX2_advanceBy_36 : decode cX2_advanceBy 36 = .ok (.iload 4, 2) := by decide +kernel
theorem dX2_advanceBy_38 : decode cX2_advanceBy 38 = .ok (.iload_n 1, 1) := by decide +kernel
theorem dX2_advanceBy_39 : decode cX2_advanceBy 39 = .ok (.if_icmp .gt 18, 3) := by decide +kernel
theorem dX2_advanceBy_42 : decode cX2_advanceBy 42 = .ok (.aload_n 0, 1) := by decide +kernel
theorem dX2_advanceBy_43 : decode cX2_advanceBy 43 = .ok (.iload_n 3, 1) := by decide +kernel
theorem dX2_advanceBy_44 : decode cX2_advanceBy 44 = .ok (.aload_n 0, 1) := by decide +kernel
theorem dX2_advanceBy_45 : decode cX2_advanceBy 45 = .ok (.getfield 32, 3) := by decide +kernel
theorem dX2_advanceBy_48 : decode cX2_advanceBy 48 = .ok (.iload 4, 2) := by decide +kernel
theorem dX2_advanceBy_50 : decode cX2_advanceBy 50 = .ok (.iadd, 1) := by decide +kernel
theorem dX2_advanceBy_51 : decode cX2_advanceBy 51 = .ok (.invokevirtual 148, 3) := by decide +kernel
theorem dX2_advanceBy_54 : decode cX2_advanceBy 54 = .ok (.iinc 2 1, 3) := by decide +kernel
theorem dX2_advanceBy_57 : decode cX2_advanceBy 57 = .ok (.iinc 3 1, 3) := by decide +kernel
theorem dX2_advanceBy_60 : decode cX2_advanceBy 60 = .ok (.goto (-56), 3) := by decide +kernel
theorem dX2_advanceBy_63 : decode cX2_advanceBy 63 = .ok (.aload_n 0, 1) := by decide +kernel
theorem dX2_advanceBy_64 : decode cX2_advanceBy 64 = .ok (.dup, 1) := by decide +kernel
theorem dX2_advanceBy_65 : decode cX2_advanceBy 65 = .ok (.getfield 32, 3) := by decide +kernel
theorem dX2_advanceBy_68 : decode cX2_advanceBy 68 = .ok (.iload_n 1, 1) := by decide +kernel
theorem dX2_advanceBy_69 : decode cX2_advanceBy 69 = .ok (.iadd, 1) := by decide +kernel
theorem dX2_advanceBy_70 : decode cX2_advanceBy 70 = .ok (.putfield 32, 3) := by decide +kernel
theorem dX2_advanceBy_73 : decode cX2_advanceBy 73 = .ok (.iload_n 2, 1) := by decide +kernel
theorem dX2_advanceBy_74 : decode cX2_advanceBy 74 = .ok (.ireturn, 1) := by decide +kernel
theorem dX2_ticksUntilCommitted_0 : decode cX2_ticksUntilCommitted 0 = .ok (.aload_n 0, 1) := by decide +kernel
theorem dX2_ticksUntilCommitted_1 : decode cX2_ticksUntilCommitted 1 = .ok (.getfield 11, 3) := by decide +kernel
theorem dX2_ticksUntilCommitted_4 : decode cX2_ticksUntilCommitted 4 = .ok (.aload_n 0, 1) := by decide +kernel
theorem dX2_ticksUntilCommitted_5 : decode cX2_ticksUntilCommitted 5 = .ok (.getfield 27, 3) := by decide +kernel
theorem dX2_ticksUntilCommitted_8 : decode cX2_ticksUntilCommitted 8 = .ok (.getfield 96, 3) := by decide +kernel
theorem dX2_ticksUntilCommitted_11 : decode cX2_ticksUntilCommitted 11 = .ok (.iload_n 1, 1) := by decide +kernel
theorem dX2_ticksUntilCommitted_12 : decode cX2_ticksUntilCommitted 12 = .ok (.iaload, 1) := by decide +kernel
theorem dX2_ticksUntilCommitted_13 : decode cX2_ticksUntilCommitted 13 = .ok (.aaload, 1) := by decide +kernel
theorem dX2_ticksUntilCommitted_14 : decode cX2_ticksUntilCommitted 14 = .ok (.astore_n 3, 1) := by decide +kernel
theorem dX2_ticksUntilCommitted_15 : decode cX2_ticksUntilCommitted 15 = .ok (.iconst 1, 1) := by decide +kernel
theorem dX2_ticksUntilCommitted_16 : decode cX2_ticksUntilCommitted 16 = .ok (.istore 4, 2) := by decide +kernel
theorem dX2_ticksUntilCommitted_18 : decode cX2_ticksUntilCommitted 18 = .ok (.iload 4, 2) := by decide +kernel
theorem dX2_ticksUntilCommitted_20 : decode cX2_ticksUntilCommitted 20 = .ok (.iload_n 2, 1) := by decide +kernel
theorem dX2_ticksUntilCommitted_21 : decode cX2_ticksUntilCommitted 21 = .ok (.if_icmp .gt 48, 3) := by decide +kernel
theorem dX2_ticksUntilCommitted_24 : decode cX2_ticksUntilCommitted 24 = .ok (.aload_n 0, 1) := by decide +kernel
theorem dX2_ticksUntilCommitted_25 : decode cX2_ticksUntilCommitted 25 = .ok (.getfield 27, 3) := by decide +kernel
theorem dX2_ticksUntilCommitted_28 : decode cX2_ticksUntilCommitted 28 = .ok (.getfield 127, 3) := by decide +kernel
theorem dX2_ticksUntilCommitted_31 : decode cX2_ticksUntilCommitted 31 = .ok (.iload_n 1, 1) := by decide +kernel
theorem dX2_ticksUntilCommitted_32 : decode cX2_ticksUntilCommitted 32 = .ok (.iaload, 1) := by decide +kernel
theorem dX2_ticksUntilCommitted_33 : decode cX2_ticksUntilCommitted 33 = .ok (.aload_n 3, 1) := by decide +kernel
theorem dX2_ticksUntilCommitted_34 : decode cX2_ticksUntilCommitted 34 = .ok (.aload_n 0, 1) := by decide +kernel
theorem dX2_ticksUntilCommitted_35 : decode cX2_ticksUntilCommitted 35 = .ok (.getfield 32, 3) := by decide +kernel
theorem dX2_ticksUntilCommitted_38 : decode cX2_ticksUntilCommitted 38 = .ok (.iload 4, 2) := by decide +kernel
theorem dX2_ticksUntilCommitted_40 : decode cX2_ticksUntilCommitted 40 = .ok (.iadd, 1) := by decide +kernel
theorem dX2_ticksUntilCommitted_41 : decode cX2_ticksUntilCommitted 41 = .ok (.invokevirtual 151, 3) := by decide +kernel
theorem dX2_ticksUntilCommitted_44 : decode cX2_ticksUntilCommitted 44 = .ok (.isub, 1) := by decide +kernel
theorem dX2_ticksUntilCommitted_45 : decode cX2_ticksUntilCommitted 45 = .ok (.istore 5, 2) := by decide +kernel
theorem dX2_ticksUntilCommitted_47 : decode cX2_ticksUntilCommitted 47 = .ok (.iload 5, 2) := by decide +kernel
theorem dX2_ticksUntilCommitted_49 : decode cX2_ticksUntilCommitted 49 = .ok (.ifCond .ge 6, 3) := by decide +kernel
theorem dX2_ticksUntilCommitted_52 : decode cX2_ticksUntilCommitted 52 = .ok (.iload 4, 2) := by decide +kernel
theorem dX2_ticksUntilCommitted_54 : decode cX2_ticksUntilCommitted 54 = .ok (.ireturn, 1) := by decide +kernel
theorem dX2_ticksUntilCommitted_55 : decode cX2_ticksUntilCommitted 55 = .ok (.iload 4, 2) := by decide +kernel
theorem dX2_ticksUntilCommitted_57 : decode cX2_ticksUntilCommitted 57 = .ok (.iconst 1, 1) := by decide +kernel
theorem dX2_ticksUntilCommitted_58 : decode cX2_ticksUntilCommitted 58 = .ok (.iload 5, 2) := by decide +kernel
theorem dX2_ticksUntilCommitted_60 : decode cX2_ticksUntilCommitted 60 = .ok (.iconst 2, 1) := by decide +kernel
theorem dX2_ticksUntilCommitted_61 : decode cX2_ticksUntilCommitted 61 = .ok (.idiv, 1) := by decide +kernel
theorem dX2_ticksUntilCommitted_62 : decode cX2_ticksUntilCommitted 62 = .ok (.iadd, 1) := by decide +kernel
theorem dX2_ticksUntilCommitted_63 : decode cX2_ticksUntilCommitted 63 = .ok (.iadd, 1) := by decide +kernel
theorem dX2_ticksUntilCommitted_64 : decode cX2_ticksUntilCommitted 64 = .ok (.istore 4, 2) := by decide +kernel
theorem dX2_ticksUntilCommitted_66 : decode cX2_ticksUntilCommitted 66 = .ok (.goto (-48), 3) := by decide +kernel
theorem dX2_ticksUntilCommitted_69 : decode cX2_ticksUntilCommitted 69 = .ok (.iload_n 2, 1) := by decide +kernel
theorem dX2_ticksUntilCommitted_70 : decode cX2_ticksUntilCommitted 70 = .ok (.iconst 1, 1) := by decide +kernel
theorem dX2_ticksUntilCommitted_71 : decode cX2_ticksUntilCommitted 71 = .ok (.iadd, 1) := by decide +kernel
theorem dX2_ticksUntilCommitted_72 : decode cX2_ticksUntilCommitted 72 = .ok (.ireturn, 1) := by decide +kernel
theorem dX2_synchronizeClock_0 : decode cX2_synchronizeClock 0 = .ok (.aload_n 0, 1) := by decide +kernel
theorem dX2_synchronizeClock_1 : decode cX2_synchronizeClock 1 = .ok (.getfield 11, 3) := by decide +kernel
theorem dX2_synchronizeClock_4 : decode cX2_synchronizeClock 4 = .ok (.iload_n 1, 1) := by decide +kernel
theorem dX2_synchronizeClock_5 : decode cX2_synchronizeClock 5 = .ok (.aaload, 1) := by decide +kernel
theorem dX2_synchronizeClock_6 : decode cX2_synchronizeClock 6 = .ok (.aload_n 0, 1) := by decide +kernel
theorem dX2_synchronizeClock_7 : decode cX2_synchronizeClock 7 = .ok (.getfield 32, 3) := by decide +kernel
theorem dX2_synchronizeClock_10 : decode cX2_synchronizeClock 10 = .ok (.invokevirtual 154, 3) := by decide +kernel
theorem dX2_synchronizeClock_13 : decode cX2_synchronizeClock 13 = .ok (.istore_n 3, 1) := by decide +kernel
theorem dX2_synchronizeClock_14 : decode cX2_synchronizeClock 14 = .ok (.aload_n 0, 1) := by decide +kernel
theorem dX2_synchronizeClock_15 : decode cX2_synchronizeClock 15 = .ok (.getfield 11, 3) := by decide +kernel
theorem dX2_synchronizeClock_18 : decode cX2_synchronizeClock 18 = .ok (.iload_n 1, 1) := by decide +kernel
theorem dX2_synchronizeClock_19 : decode cX2_synchronizeClock 19 = .ok (.aaload, 1) := by decide +kernel
theorem dX2_synchronizeClock_20 : decode cX2_synchronizeClock 20 = .ok (.iload_n 2, 1) := by decide +kernel
theorem dX2_synchronizeClock_21 : decode cX2_synchronizeClock 21 = .ok (.aload_n 0, 1) := by decide +kernel
theorem dX2_synchronizeClock_22 : decode cX2_synchronizeClock 22 = .ok (.getfield 32, 3) := by decide +kernel
theorem dX2_synchronizeClock_25 : decode cX2_synchronizeClock 25 = .ok (.invokevirtual 157, 3) := by decide +kernel
theorem dX2_synchronizeClock_28 : decode cX2_synchronizeClock 28 = .ok (.iload_n 2, 1) := by decide +kernel
theorem dX2_synchronizeClock_29 : decode cX2_synchronizeClock 29 = .ok (.iload_n 3, 1) := by decide +kernel
theorem dX2_synchronizeClock_30 : decode cX2_synchronizeClock 30 = .ok (.isub, 1) := by decide +kernel
theorem dX2_synchronizeClock_31 : decode cX2_synchronizeClock 31 = .ok (.ireturn, 1) := by decide +kernel
theorem dX2_nextTimestampOf_0 : decode cX2_nextTimestampOf 0 = .ok (.aload_n 0, 1) := by decide +kernel
theorem dX2_nextTimestampOf_1 : decode cX2_nextTimestampOf 1 = .ok (.getfield 11, 3) := by decide +kernel
theorem dX2_nextTimestampOf_4 : decode cX2_nextTimestampOf 4 = .ok (.iload_n 1, 1) := by decide +kernel
theorem dX2_nextTimestampOf_5 : decode cX2_nextTimestampOf 5 = .ok (.aaload, 1) := by decide +kernel
theorem dX2_nextTimestampOf_6 : decode cX2_nextTimestampOf 6 = .ok (.getfield 133, 3) := by decide +kernel
theorem dX2_nextTimestampOf_9 : decode cX2_nextTimestampOf 9 = .ok (.aload_n 0, 1) := by decide +kernel
theorem dX2_nextTimestampOf_10 : decode cX2_nextTimestampOf 10 = .ok (.getfield 36, 3) := by decide +kernel
theorem dX2_nextTimestampOf_13 : decode cX2_nextTimestampOf 13 = .ok (.invokestatic 109, 3) := by decide +kernel
theorem dX2_nextTimestampOf_16 : decode cX2_nextTimestampOf 16 = .ok (.istore_n 2, 1) := by decide +kernel
theorem dX2_nextTimestampOf_17 : decode cX2_nextTimestampOf 17 = .ok (.aload_n 0, 1) := by decide +kernel
theorem dX2_nextTimestampOf_18 : decode cX2_nextTimestampOf 18 = .ok (.getfield 11, 3) := by decide +kernel
theorem dX2_nextTimestampOf_21 : decode cX2_nextTimestampOf 21 = .ok (.iload_n 1, 1) := by decide +kernel
theorem dX2_nextTimestampOf_22 : decode cX2_nextTimestampOf 22 = .ok (.aaload, 1) := by decide +kernel
theorem dX2_nextTimestampOf_23 : decode cX2_nextTimestampOf 23 = .ok (.aload_n 0, 1) := by decide +kernel
theorem dX2_nextTimestampOf_24 : decode cX2_nextTimestampOf 24 = .ok (.getfield 32, 3) := by decide +kernel
theorem dX2_nextTimestampOf_27 : decode cX2_nextTimestampOf 27 = .ok (.invokevirtual 160, 3) := by decide +kernel
theorem dX2_nextTimestampOf_30 : decode cX2_nextTimestampOf 30 = .ok (.iconst 1, 1) := by decide +kernel
theorem dX2_nextTimestampOf_31 : decode cX2_nextTimestampOf 31 = .ok (.iload_n 2, 1) := by decide +kernel
theorem dX2_nextTimestampOf_32 : decode cX2_nextTimestampOf 32 = .ok (.iadd, 1) := by decide +kernel
theorem dX2_nextTimestampOf_33 : decode cX2_nextTimestampOf 33 = .ok (.invokestatic 109, 3) := by decide +kernel
theorem dX2_nextTimestampOf_36 : decode cX2_nextTimestampOf 36 = .ok (.ireturn, 1) := by decide +kernel
theorem dX2_safeTimeNow_0 : decode cX2_safeTimeNow 0 = .ok (.aload_n 0, 1) := by decide +kernel
theorem dX2_safeTimeNow_1 : decode cX2_safeTimeNow 1 = .ok (.iconst 0, 1) := by decide +kernel
theorem dX2_safeTimeNow_2 : decode cX2_safeTimeNow 2 = .ok (.invokevirtual 100, 3) := by decide +kernel
theorem dX2_safeTimeNow_5 : decode cX2_safeTimeNow 5 = .ok (.iconst 1, 1) := by decide +kernel
theorem dX2_safeTimeNow_6 : decode cX2_safeTimeNow 6 = .ok (.isub, 1) := by decide +kernel
theorem dX2_safeTimeNow_7 : decode cX2_safeTimeNow 7 = .ok (.istore_n 1, 1) := by decide +kernel
theorem dX2_safeTimeNow_8 : decode cX2_safeTimeNow 8 = .ok (.iconst 1, 1) := by decide +kernel
theorem dX2_safeTimeNow_9 : decode cX2_safeTimeNow 9 = .ok (.istore_n 2, 1) := by decide +kernel
theorem dX2_safeTimeNow_10 : decode cX2_safeTimeNow 10 = .ok (.iload_n 2, 1) := by decide +kernel
theorem dX2_safeTimeNow_11 : decode cX2_safeTimeNow 11 = .ok (.iconst 3, 1) := by decide +kernel
theorem dX2_safeTimeNow_12 : decode cX2_safeTimeNow 12 = .ok (.if_icmp .ge 21, 3) := by decide +kernel
theorem dX2_safeTimeNow_15 : decode cX2_safeTimeNow 15 = .ok (.iload_n 1, 1) := by decide +kernel
theorem dX2_safeTimeNow_16 : decode cX2_safeTimeNow 16 = .ok (.aload_n 0, 1) := by decide +kernel
theorem dX2_safeTimeNow_17 : decode cX2_safeTimeNow 17 = .ok (.iload_n 2, 1) := by decide +kernel
theorem dX2_safeTimeNow_18 : decode cX2_safeTimeNow 18 = .ok (.invokevirtual 100, 3) := by decide +kernel
theorem dX2_safeTimeNow_21 : decode cX2_safeTimeNow 21 = .ok (.iconst 1, 1) := by decide +kernel
theorem dX2_safeTimeNow_22 : decode cX2_safeTimeNow 22 = .ok (.isub, 1) := by decide +kernel
theorem dX2_safeTimeNow_23 : decode cX2_safeTimeNow 23 = .ok (.invokestatic 163, 3) := by decide +kernel
theorem dX2_safeTimeNow_26 : decode cX2_safeTimeNow 26 = .ok (.istore_n 1, 1) := by decide +kernel
theorem dX2_safeTimeNow_27 : decode cX2_safeTimeNow 27 = .ok (.iinc 2 1, 3) := by decide +kernel
theorem dX2_safeTimeNow_30 : decode cX2_safeTimeNow 30 = .ok (.goto (-20), 3) := by decide +kernel
theorem dX2_safeTimeNow_33 : decode cX2_safeTimeNow 33 = .ok (.iconst 0, 1) := by decide +kernel
theorem dX2_safeTimeNow_34 : decode cX2_safeTimeNow 34 = .ok (.istore_n 2, 1) := by decide +kernel
theorem dX2_safeTimeNow_35 : decode cX2_safeTimeNow 35 = .ok (.iload_n 2, 1) := by decide +kernel
theorem dX2_safeTimeNow_36 : decode cX2_safeTimeNow 36 = .ok (.aload_n 0, 1) := by decide +kernel
theorem dX2_safeTimeNow_37 : decode cX2_safeTimeNow 37 = .ok (.getfield 27, 3) := by decide +kernel
theorem dX2_safeTimeNow_40 : decode cX2_safeTimeNow 40 = .ok (.getfield 52, 3) := by decide +kernel
theorem dX2_safeTimeNow_43 : decode cX2_safeTimeNow 43 = .ok (.if_icmp .ge 38, 3) := by decide +kernel
theorem dX2_safeTimeNow_46 : decode cX2_safeTimeNow 46 = .ok (.aload_n 0, 1) := by decide +kernel
theorem dX2_safeTimeNow_47 : decode cX2_safeTimeNow 47 = .ok (.getfield 27, 3) := by decide +kernel
theorem dX2_safeTimeNow_50 : decode cX2_safeTimeNow 50 = .ok (.getfield 124, 3) := by decide +kernel
theorem dX2_safeTimeNow_53 : decode cX2_safeTimeNow 53 = .ok (.iload_n 2, 1) := by decide +kernel
theorem dX2_safeTimeNow_54 : decode cX2_safeTimeNow 54 = .ok (.iaload, 1) := by decide +kernel
theorem dX2_safeTimeNow_55 : decode cX2_safeTimeNow 55 = .ok (.iconst 1, 1) := by decide +kernel
theorem dX2_safeTimeNow_56 : decode cX2_safeTimeNow 56 = .ok (.if_icmp .ne 19, 3) := by decide +kernel
theorem dX2_safeTimeNow_59 : decode cX2_safeTimeNow 59 = .ok (.iload_n 1, 1) := by decide +kernel
theorem dX2_safeTimeNow_60 : decode cX2_safeTimeNow 60 = .ok (.aload_n 0, 1) := by decide +kernel
theorem dX2_safeTimeNow_61 : decode cX2_safeTimeNow 61 = .ok (.getfield 27, 3) := by decide +kernel
theorem dX2_safeTimeNow_64 : decode cX2_safeTimeNow 64 = .ok (.getfield 127, 3) := by decide +kernel
theorem dX2_safeTimeNow_67 : decode cX2_safeTimeNow 67 = .ok (.iload_n 2, 1) := by decide +kernel
theorem dX2_safeTimeNow_68 : decode cX2_safeTimeNow 68 = .ok (.iaload, 1) := by decide +kernel
theorem dX2_safeTimeNow_69 : decode cX2_safeTimeNow 69 = .ok (.iconst 1, 1) := by decide +kernel
theorem dX2_safeTimeNow_70 : decode cX2_safeTimeNow 70 = .ok (.isub, 1) := by decide +kernel
theorem dX2_safeTimeNow_71 : decode cX2_safeTimeNow 71 = .ok (.invokestatic 163, 3) := by decide +kernel
theorem dX2_safeTimeNow_74 : decode cX2_safeTimeNow 74 = .ok (.istore_n 1, 1) := by decide +kernel
theorem dX2_safeTimeNow_75 : decode cX2_safeTimeNow 75 = .ok (.iinc 2 1, 3) := by decide +kernel
theorem dX2_safeTimeNow_78 : decode cX2_safeTimeNow 78 = .ok (.goto (-43), 3) := by decide +kernel
theorem dX2_safeTimeNow_81 : decode cX2_safeTimeNow 81 = .ok (.iload_n 1, 1) := by decide +kernel
theorem dX2_safeTimeNow_82 : decode cX2_safeTimeNow 82 = .ok (.ireturn, 1) := by decide +kernel
theorem dX2_ticksUntilSafeAt_0 : decode cX2_ticksUntilSafeAt 0 = .ok (.iconst 0, 1) := by decide +kernel
theorem dX2_ticksUntilSafeAt_1 : decode cX2_ticksUntilSafeAt 1 = .ok (.istore_n 3, 1) := by decide +kernel
theorem dX2_ticksUntilSafeAt_2 : decode cX2_ticksUntilSafeAt 2 = .ok (.iconst 0, 1) := by decide +kernel
theorem dX2_ticksUntilSafeAt_3 : decode cX2_ticksUntilSafeAt 3 = .ok (.istore 4, 2) := by decide +kernel
theorem dX2_ticksUntilSafeAt_5 : decode cX2_ticksUntilSafeAt 5 = .ok (.iload 4, 2) := by decide +kernel
theorem dX2_ticksUntilSafeAt_7 : decode cX2_ticksUntilSafeAt 7 = .ok (.iconst 3, 1) := by decide +kernel
theorem dX2_ticksUntilSafeAt_8 : decode cX2_ticksUntilSafeAt 8 = .ok (.if_icmp .ge 40, 3) := by decide +kernel
theorem dX2_ticksUntilSafeAt_11 : decode cX2_ticksUntilSafeAt 11 = .ok (.aload_n 0, 1) := by decide +kernel
theorem dX2_ticksUntilSafeAt_12 : decode cX2_ticksUntilSafeAt 12 = .ok (.iload 4, 2) := by decide +kernel
theorem dX2_ticksUntilSafeAt_14 : decode cX2_ticksUntilSafeAt 14 = .ok (.invokevirtual 100, 3) := by decide +kernel
theorem dX2_ticksUntilSafeAt_17 : decode cX2_ticksUntilSafeAt 17 = .ok (.iload_n 1, 1) := by decide +kernel
theorem dX2_ticksUntilSafeAt_18 : decode cX2_ticksUntilSafeAt 18 = .ok (.if_icmp .gt 24, 3) := by decide +kernel
theorem dX2_ticksUntilSafeAt_21 : decode cX2_ticksUntilSafeAt 21 = .ok (.iload_n 3, 1) := by decide +kernel
theorem dX2_ticksUntilSafeAt_22 : decode cX2_ticksUntilSafeAt 22 = .ok (.aload_n 0, 1) := by decide +kernel
theorem dX2_ticksUntilSafeAt_23 : decode cX2_ticksUntilSafeAt 23 = .ok (.getfield 11, 3) := by decide +kernel
theorem dX2_ticksUntilSafeAt_26 : decode cX2_ticksUntilSafeAt 26 = .ok (.iload 4, 2) := by decide +kernel
theorem dX2_ticksUntilSafeAt_28 : decode cX2_ticksUntilSafeAt 28 = .ok (.aaload, 1) := by decide +kernel
theorem dX2_ticksUntilSafeAt_29 : decode cX2_ticksUntilSafeAt 29 = .ok (.iload_n 1, 1) := by decide +kernel
theorem dX2_ticksUntilSafeAt_30 : decode cX2_ticksUntilSafeAt 30 = .ok (.aload_n 0, 1) := by decide +kernel
theorem dX2_ticksUntilSafeAt_31 : decode cX2_ticksUntilSafeAt 31 = .ok (.getfield 32, 3) := by decide +kernel
theorem dX2_ticksUntilSafeAt_34 : decode cX2_ticksUntilSafeAt 34 = .ok (.iload_n 2, 1) := by decide +kernel
theorem dX2_ticksUntilSafeAt_35 : decode cX2_ticksUntilSafeAt 35 = .ok (.invokevirtual 166, 3) := by decide +kernel
theorem dX2_ticksUntilSafeAt_38 : decode cX2_ticksUntilSafeAt 38 = .ok (.invokestatic 109, 3) := by decide +kernel
theorem dX2_ticksUntilSafeAt_41 : decode cX2_ticksUntilSafeAt 41 = .ok (.istore_n 3, 1) := by decide +kernel
theorem dX2_ticksUntilSafeAt_42 : decode cX2_ticksUntilSafeAt 42 = .ok (.iinc 4 1, 3) := by decide +kernel
theorem dX2_ticksUntilSafeAt_45 : decode cX2_ticksUntilSafeAt 45 = .ok (.goto (-40), 3) := by decide +kernel
theorem dX2_ticksUntilSafeAt_48 : decode cX2_ticksUntilSafeAt 48 = .ok (.iconst 0, 1) := by decide +kernel
theorem dX2_ticksUntilSafeAt_49 : decode cX2_ticksUntilSafeAt 49 = .ok (.istore 4, 2) := by decide +kernel
theorem dX2_ticksUntilSafeAt_51 : decode cX2_ticksUntilSafeAt 51 = .ok (.iload 4, 2) := by decide +kernel
theorem dX2_ticksUntilSafeAt_53 : decode cX2_ticksUntilSafeAt 53 = .ok (.aload_n 0, 1) := by decide +kernel
theorem dX2_ticksUntilSafeAt_54 : decode cX2_ticksUntilSafeAt 54 = .ok (.getfield 27, 3) := by decide +kernel
theorem dX2_ticksUntilSafeAt_57 : decode cX2_ticksUntilSafeAt 57 = .ok (.getfield 52, 3) := by decide +kernel
theorem dX2_ticksUntilSafeAt_60 : decode cX2_ticksUntilSafeAt 60 = .ok (.if_icmp .ge 49, 3) := by decide +kernel
theorem dX2_ticksUntilSafeAt_63 : decode cX2_ticksUntilSafeAt 63 = .ok (.aload_n 0, 1) := by decide +kernel
theorem dX2_ticksUntilSafeAt_64 : decode cX2_ticksUntilSafeAt 64 = .ok (.getfield 27, 3) := by decide +kernel
theorem dX2_ticksUntilSafeAt_67 : decode cX2_ticksUntilSafeAt 67 = .ok (.getfield 124, 3) := by decide +kernel
theorem dX2_ticksUntilSafeAt_70 : decode cX2_ticksUntilSafeAt 70 = .ok (.iload 4, 2) := by decide +kernel
theorem dX2_ticksUntilSafeAt_72 : decode cX2_ticksUntilSafeAt 72 = .ok (.iaload, 1) := by decide +kernel
theorem dX2_ticksUntilSafeAt_73 : decode cX2_ticksUntilSafeAt 73 = .ok (.iconst 1, 1) := by decide +kernel
theorem dX2_ticksUntilSafeAt_74 : decode cX2_ticksUntilSafeAt 74 = .ok (.if_icmp .ne 29, 3) := by decide +kernel
theorem dX2_ticksUntilSafeAt_77 : decode cX2_ticksUntilSafeAt 77 = .ok (.aload_n 0, 1) := by decide +kernel
theorem dX2_ticksUntilSafeAt_78 : decode cX2_ticksUntilSafeAt 78 = .ok (.getfield 27, 3) := by decide +kernel
theorem dX2_ticksUntilSafeAt_81 : decode cX2_ticksUntilSafeAt 81 = .ok (.getfield 127, 3) := by decide +kernel
theorem dX2_ticksUntilSafeAt_84 : decode cX2_ticksUntilSafeAt 84 = .ok (.iload 4, 2) := by decide +kernel
theorem dX2_ticksUntilSafeAt_86 : decode cX2_ticksUntilSafeAt 86 = .ok (.iaload, 1) := by decide +kernel
theorem dX2_ticksUntilSafeAt_87 : decode cX2_ticksUntilSafeAt 87 = .ok (.iload_n 1, 1) := by decide +kernel
theorem dX2_ticksUntilSafeAt_88 : decode cX2_ticksUntilSafeAt 88 = .ok (.if_icmp .gt 15, 3) := by decide +kernel
theorem dX2_ticksUntilSafeAt_91 : decode cX2_ticksUntilSafeAt 91 = .ok (.iload_n 3, 1) := by decide +kernel
theorem dX2_ticksUntilSafeAt_92 : decode cX2_ticksUntilSafeAt 92 = .ok (.aload_n 0, 1) := by decide +kernel
theorem dX2_ticksUntilSafeAt_93 : decode cX2_ticksUntilSafeAt 93 = .ok (.iload 4, 2) := by decide +kernel
theorem dX2_ticksUntilSafeAt_95 : decode cX2_ticksUntilSafeAt 95 = .ok (.iload_n 2, 1) := by decide +kernel
theorem dX2_ticksUntilSafeAt_96 : decode cX2_ticksUntilSafeAt 96 = .ok (.invokevirtual 145, 3) := by decide +kernel
theorem dX2_ticksUntilSafeAt_99 : decode cX2_ticksUntilSafeAt 99 = .ok (.invokestatic 109, 3) := by decide +kernel
theorem dX2_ticksUntilSafeAt_102 : decode cX2_ticksUntilSafeAt 102 = .ok (.istore_n 3, 1) := by decide +kernel
theorem dX2_ticksUntilSafeAt_103 : decode cX2_ticksUntilSafeAt 103 = .ok (.iinc 4 1, 3) := by decide +kernel
theorem dX2_ticksUntilSafeAt_106 : decode cX2_ticksUntilSafeAt 106 = .ok (.goto (-55), 3) := by decide +kernel
theorem dX2_ticksUntilSafeAt_109 : decode cX2_ticksUntilSafeAt 109 = .ok (.iload_n 3, 1) := by decide +kernel
theorem dX2_ticksUntilSafeAt_110 : decode cX2_ticksUntilSafeAt 110 = .ok (.ireturn, 1) := by decide +kernel
theorem dX3_init_0 : decode cX3_init 0 = .ok (.aload_n 0, 1) := by decide +kernel
theorem dX3_init_1 : decode cX3_init 1 = .ok (.invokespecial 3, 3) := by decide +kernel
theorem dX3_init_4 : decode cX3_init 4 = .ok (.aload_n 0, 1) := by decide +kernel
theorem dX3_init_5 : decode cX3_init 5 = .ok (.iconst 3, 1) := by decide +kernel
theorem dX3_init_6 : decode cX3_init 6 = .ok (.newarray .int, 2) := by decide +kernel
theorem dX3_init_8 : decode cX3_init 8 = .ok (.putfield 9, 3) := by decide +kernel
theorem dX3_init_11 : decode cX3_init 11 = .ok (.aload_n 0, 1) := by decide +kernel
theorem dX3_init_12 : decode cX3_init 12 = .ok (.bipush 80, 2) := by decide +kernel
theorem dX3_init_14 : decode cX3_init 14 = .ok (.newarray .char, 2) := by decide +kernel
theorem dX3_init_16 : decode cX3_init 16 = .ok (.putfield 15, 3) := by decide +kernel
theorem dX3_init_19 : decode cX3_init 19 = .ok (.return_, 1) := by decide +kernel
theorem dX4_init_0 : decode cX4_init 0 = .ok (.aload_n 0, 1) := by decide +kernel
theorem dX4_init_1 : decode cX4_init 1 = .ok (.invokespecial 3, 3) := by decide +kernel
theorem dX4_init_4 : decode cX4_init 4 = .ok (.aload_n 0, 1) := by decide +kernel
theorem dX4_init_5 : decode cX4_init 5 = .ok (.bipush 40, 2) := by decide +kernel
theorem dX4_init_7 : decode cX4_init 7 = .ok (.newarray .int, 2) := by decide +kernel
theorem dX4_init_9 : decode cX4_init 9 = .ok (.putfield 9, 3) := by decide +kernel
theorem dX4_init_12 : decode cX4_init 12 = .ok (.aload_n 0, 1) := by decide +kernel
theorem dX4_init_13 : decode cX4_init 13 = .ok (.bipush 40, 2) := by decide +kernel
theorem dX4_init_15 : decode cX4_init 15 = .ok (.newarray .int, 2) := by decide +kernel
theorem dX4_init_17 : decode cX4_init 17 = .ok (.putfield 15, 3) := by decide +kernel
theorem dX4_init_20 : decode cX4_init 20 = .ok (.aload_n 0, 1) := by decide +kernel
theorem dX4_init_21 : decode cX4_init 21 = .ok (.bipush 40, 2) := by decide +kernel
theorem dX4_init_23 : decode cX4_init 23 = .ok (.newarray .int, 2) := by decide +kernel
theorem dX4_init_25 : decode cX4_init 25 = .ok (.putfield 18, 3) := by decide +kernel
theorem dX4_init_28 : decode cX4_init 28 = .ok (.aload_n 0, 1) := by decide +kernel
theorem dX4_init_29 : decode cX4_init 29 = .ok (.bipush 40, 2) := by decide +kernel
theorem dX4_init_31 : decode cX4_init 31 = .ok (.newarray .int, 2) := by decide +kernel
theorem dX4_init_33 : decode cX4_init 33 = .ok (.putfield 21, 3) := by decide +kernel
theorem dX4_init_36 : decode cX4_init 36 = .ok (.aload_n 0, 1) := by decide +kernel
theorem dX4_init_37 : decode cX4_init 37 = .ok (.bipush 40, 2) := by decide +kernel
theorem dX4_init_39 : decode cX4_init 39 = .ok (.newarray .int, 2) := by decide +kernel
theorem dX4_init_41 : decode cX4_init 41 = .ok (.putfield 24, 3) := by decide +kernel
theorem dX4_init_44 : decode cX4_init 44 = .ok (.aload_n 0, 1) := by decide +kernel
theorem dX4_init_45 : decode cX4_init 45 = .ok (.sipush 320, 3) := by decide +kernel
theorem dX4_init_48 : decode cX4_init 48 = .ok (.newarray .int, 2) := by decide +kernel
theorem dX4_init_50 : decode cX4_init 50 = .ok (.putfield 27, 3) := by decide +kernel
theorem dX4_init_53 : decode cX4_init 53 = .ok (.aload_n 0, 1) := by decide +kernel
theorem dX4_init_54 : decode cX4_init 54 = .ok (.sipush 320, 3) := by decide +kernel
theorem dX4_init_57 : decode cX4_init 57 = .ok (.newarray .int, 2) := by decide +kernel
theorem dX4_init_59 : decode cX4_init 59 = .ok (.putfield 30, 3) := by decide +kernel
theorem dX4_init_62 : decode cX4_init 62 = .ok (.return_, 1) := by decide +kernel
theorem dX4_copyFrom_0 : decode cX4_copyFrom 0 = .ok (.aload_n 0, 1) := by decide +kernel
theorem dX4_copyFrom_1 : decode cX4_copyFrom 1 = .ok (.aload_n 1, 1) := by decide +kernel
theorem dX4_copyFrom_2 : decode cX4_copyFrom 2 = .ok (.getfield 33, 3) := by decide +kernel
theorem dX4_copyFrom_5 : decode cX4_copyFrom 5 = .ok (.putfield 33, 3) := by decide +kernel
theorem dX4_copyFrom_8 : decode cX4_copyFrom 8 = .ok (.aload_n 1, 1) := by decide +kernel
theorem dX4_copyFrom_9 : decode cX4_copyFrom 9 = .ok (.getfield 9, 3) := by decide +kernel
theorem dX4_copyFrom_12 : decode cX4_copyFrom 12 = .ok (.iconst 0, 1) := by decide +kernel
theorem dX4_copyFrom_13 : decode cX4_copyFrom 13 = .ok (.aload_n 0, 1) := by decide +kernel
theorem dX4_copyFrom_14 : decode cX4_copyFrom 14 = .ok (.getfield 9, 3) := by decide +kernel
theorem dX4_copyFrom_17 : decode cX4_copyFrom 17 = .ok (.iconst 0, 1) := by decide +kernel
theorem dX4_copyFrom_18 : decode cX4_copyFrom 18 = .ok (.aload_n 0, 1) := by decide +kernel
theorem dX4_copyFrom_19 : decode cX4_copyFrom 19 = .ok (.getfield 33, 3) := by decide +kernel
theorem dX4_copyFrom_22 : decode cX4_copyFrom 22 = .ok (.invokestatic 37, 3) := by decide +kernel
theorem dX4_copyFrom_25 : decode cX4_copyFrom 25 = .ok (.aload_n 1, 1) := by decide +kernel
theorem dX4_copyFrom_26 : decode cX4_copyFrom 26 = .ok (.getfield 15, 3) := by decide +kernel
theorem dX4_copyFrom_29 : decode cX4_copyFrom 29 = .ok (.iconst 0, 1) := by decide +kernel
theorem dX4_copyFrom_30 : decode cX4_copyFrom 30 = .ok (.aload_n 0, 1) := by decide +kernel
theorem dX4_copyFrom_31 : decode cX4_copyFrom 31 = .ok (.getfield 15, 3) := by decide +kernel
theorem dX4_copyFrom_34 : decode cX4_copyFrom 34 = .ok (.iconst 0, 1) := by decide +kernel
theorem dX4_copyFrom_35 : decode cX4_copyFrom 35 = .ok (.aload_n 0, 1) := by decide +kernel
theorem dX4_copyFrom_36 : decode cX4_copyFrom 36 = .ok (.getfield 33, 3) := by decide +kernel
theorem dX4_copyFrom_39 : decode cX4_copyFrom 39 = .ok (.invokestatic 37, 3) := by decide +kernel
theorem dX4_copyFrom_42 : decode cX4_copyFrom 42 = .ok (.aload_n 1, 1) := by decide +kernel
theorem dX4_copyFrom_43 : decode cX4_copyFrom 43 = .ok (.getfield 18, 3) := by decide +kernel
theorem dX4_copyFrom_46 : decode cX4_copyFrom 46 = .ok (.iconst 0, 1) := by decide +kernel
theorem dX4_copyFrom_47 : decode cX4_copyFrom 47 = .ok (.aload_n 0, 1) := by decide +kernel
theorem dX4_copyFrom_48 : decode cX4_copyFrom 48 = .ok (.getfield 18, 3) := by decide +kernel
theorem dX4_copyFrom_51 : decode cX4_copyFrom 51 = .ok (.iconst 0, 1) := by decide +kernel
theorem dX4_copyFrom_52 : decode cX4_copyFrom 52 = .ok (.aload_n 0, 1) := by decide +kernel
theorem dX4_copyFrom_53 : decode cX4_copyFrom 53 = .ok (.getfield 33, 3) := by decide +kernel
theorem dX4_copyFrom_56 : decode cX4_copyFrom 56 = .ok (.invokestatic 37, 3) := by decide +kernel
theorem dX4_copyFrom_59 : decode cX4_copyFrom 59 = .ok (.aload_n 1, 1) := by decide +kernel
theorem dX4_copyFrom_60 : decode cX4_copyFrom 60 = .ok (.getfield 21, 3) := by decide +kernel
theorem dX4_copyFrom_63 : decode cX4_copyFrom 63 = .ok (.iconst 0, 1) := by decide +kernel
theorem dX4_copyFrom_64 : decode cX4_copyFrom 64 = .ok (.aload_n 0, 1) := by decide +kernel
theorem dX4_copyFrom_65 : decode cX4_copyFrom 65 = .ok (.getfield 21, 3) := by decide +kernel
theorem dX4_copyFrom_68 : decode cX4_copyFrom 68 = .ok (.iconst 0, 1) := by decide +kernel
theorem dX4_copyFrom_69 : decode cX4_copyFrom 69 = .ok (.aload_n 0, 1) := by decide +kernel
theorem dX4_copyFrom_70 : decode cX4_copyFrom 70 = .ok (.getfield 33, 3) := by decide +kernel
theorem dX4_copyFrom_73 : decode cX4_copyFrom 73 = .ok (.invokestatic 37, 3) := by decide +kernel
theorem dX4_copyFrom_76 : decode cX4_copyFrom 76 = .ok (.aload_n 1, 1) := by decide +kernel
theorem dX4_copyFrom_77 : decode cX4_copyFrom 77 = .ok (.getfield 24, 3) := by decide +kernel
theorem dX4_copyFrom_80 : decode cX4_copyFrom 80 = .ok (.iconst 0, 1) := by decide +kernel
theorem dX4_copyFrom_81 : decode cX4_copyFrom 81 = .ok (.aload_n 0, 1) := by decide +kernel
theorem dX4_copyFrom_82 : decode cX4_copyFrom 82 = .ok (.getfield 24, 3) := by decide +kernel
theorem dX4_copyFrom_85 : decode cX4_copyFrom 85 = .ok (.iconst 0, 1) := by decide +kernel
theorem dX4_copyFrom_86 : decode cX4_copyFrom 86 = .ok (.aload_n 0, 1) := by decide +kernel
theorem dX4_copyFrom_87 : decode cX4_copyFrom 87 = .ok (.getfield 33, 3) := by decide +kernel
theorem dX4_copyFrom_90 : decode cX4_copyFrom 90 = .ok (.invokestatic 37, 3) := by decide +kernel
theorem dX4_copyFrom_93 : decode cX4_copyFrom 93 = .ok (.aload_n 1, 1) := by decide +kernel
theorem dX4_copyFrom_94 : decode cX4_copyFrom 94 = .ok (.getfield 27, 3) := by decide +kernel
theorem dX4_copyFrom_97 : decode cX4_copyFrom 97 = .ok (.iconst 0, 1) := by decide +kernel
theorem dX4_copyFrom_98 : decode cX4_copyFrom 98 = .ok (.aload_n 0, 1) := by decide +kernel
theorem dX4_copyFrom_99 : decode cX4_copyFrom 99 = .ok (.getfield 27, 3) := by decide +kernel
theorem dX4_copyFrom_102 : decode cX4_copyFrom 102 = .ok (.iconst 0, 1) := by decide +kernel
theorem dX4_copyFrom_103 : decode cX4_copyFrom 103 = .ok (.aload_n 0, 1) := by decide +kernel
theorem dX4_copyFrom_104 : decode cX4_copyFrom 104 = .ok (.getfield 33, 3) := by decide +kernel
theorem dX4_copyFrom_107 : decode cX4_copyFrom 107 = .ok (.bipush 8, 2) := by decide +kernel
theorem dX4_copyFrom_109 : decode cX4_copyFrom 109 = .ok (.imul, 1) := by decide +kernel
theorem dX4_copyFrom_110 : decode cX4_copyFrom 110 = .ok (.invokestatic 37, 3) := by decide +kernel
theorem dX4_copyFrom_113 : decode cX4_copyFrom 113 = .ok (.aload_n 1, 1) := by decide +kernel
theorem dX4_copyFrom_114 : decode cX4_copyFrom 114 = .ok (.getfield 30, 3) := by decide +kernel
theorem dX4_copyFrom_117 : decode cX4_copyFrom 117 = .ok (.iconst 0, 1) := by decide +kernel
theorem dX4_copyFrom_118 : decode cX4_copyFrom 118 = .ok (.aload_n 0, 1) := by decide +kernel
theorem dX4_copyFrom_119 : decode cX4_copyFrom 119 = .ok (.getfield 30, 3) := by decide +kernel
theorem dX4_copyFrom_122 : decode cX4_copyFrom 122 = .ok (.iconst 0, 1) := by decide +kernel
theorem dX4_copyFrom_123 : decode cX4_copyFrom 123 = .ok (.aload_n 0, 1) := by decide +kernel
theorem dX4_copyFrom_124 : decode cX4_copyFrom 124 = .ok (.getfield 33, 3) := by decide +kernel
theorem dX4_copyFrom_127 : decode cX4_copyFrom 127 = .ok (.bipush 8, 2) := by decide +kernel
theorem dX4_copyFrom_129 : decode cX4_copyFrom 129 = .ok (.imul, 1) := by decide +kernel
theorem dX4_copyFrom_130 : decode cX4_copyFrom 130 = .ok (.invokestatic 37, 3) := by decide +kernel
theorem dX4_copyFrom_133 : decode cX4_copyFrom 133 = .ok (.return_, 1) := by decide +kernel
theorem dX4_add_0 : decode cX4_add 0 = .ok (.aload_n 0, 1) := by decide +kernel
theorem dX4_add_1 : decode cX4_add 1 = .ok (.getfield 33, 3) := by decide +kernel
theorem dX4_add_4 : decode cX4_add 4 = .ok (.istore_n 2, 1) := by decide +kernel
theorem dX4_add_5 : decode cX4_add 5 = .ok (.aload_n 0, 1) := by decide +kernel
theorem dX4_add_6 : decode cX4_add 6 = .ok (.dup, 1) := by decide +kernel
theorem dX4_add_7 : decode cX4_add 7 = .ok (.getfield 33, 3) := by decide +kernel
theorem dX4_add_10 : decode cX4_add 10 = .ok (.iconst 1, 1) := by decide +kernel
theorem dX4_add_11 : decode cX4_add 11 = .ok (.iadd, 1) := by decide +kernel
theorem dX4_add_12 : decode cX4_add 12 = .ok (.putfield 33, 3) := by decide +kernel
theorem dX4_add_15 : decode cX4_add 15 = .ok (.aload_n 0, 1) := by decide +kernel
theorem dX4_add_16 : decode cX4_add 16 = .ok (.getfield 9, 3) := by decide +kernel
theorem dX4_add_19 : decode cX4_add 19 = .ok (.iload_n 2, 1) := by decide +kernel
theorem dX4_add_20 : decode cX4_add 20 = .ok (.iload_n 1, 1) := by decide +kernel
theorem dX4_add_21 : decode cX4_add 21 = .ok (.iastore, 1) := by decide +kernel
theorem dX4_add_22 : decode cX4_add 22 = .ok (.aload_n 0, 1) := by decide +kernel
theorem dX4_add_23 : decode cX4_add 23 = .ok (.getfield 15, 3) := by decide +kernel
theorem dX4_add_26 : decode cX4_add 26 = .ok (.iload_n 2, 1) := by decide +kernel
theorem dX4_add_27 : decode cX4_add 27 = .ok (.iconst 0, 1) := by decide +kernel
theorem dX4_add_28 : decode cX4_add 28 = .ok (.iastore, 1) := by decide +kernel
theorem dX4_add_29 : decode cX4_add 29 = .ok (.aload_n 0, 1) := by decide +kernel
theorem dX4_add_30 : decode cX4_add 30 = .ok (.getfield 18, 3) := by decide +kernel
theorem dX4_add_33 : decode cX4_add 33 = .ok (.iload_n 2, 1) := by decide +kernel
theorem dX4_add_34 : decode cX4_add 34 = .ok (.iconst (-1), 1) := by decide +kernel
theorem dX4_add_35 : decode cX4_add 35 = .ok (.iastore, 1) := by decide +kernel
theorem dX4_add_36 : decode cX4_add 36 = .ok (.aload_n 0, 1) := by decide +kernel
theorem dX4_add_37 : decode cX4_add 37 = .ok (.getfield 21, 3) := by decide +kernel
theorem dX4_add_40 : decode cX4_add 40 = .ok (.iload_n 2, 1) := by decide +kernel
theorem dX4_add_41 : decode cX4_add 41 = .ok (.iconst (-1), 1) := by decide +kernel
theorem dX4_add_42 : decode cX4_add 42 = .ok (.iastore, 1) := by decide +kernel
theorem dX4_add_43 : decode cX4_add 43 = .ok (.aload_n 0, 1) := by decide +kernel
theorem dX4_add_44 : decode cX4_add 44 = .ok (.getfield 24, 3) := by decide +kernel
theorem dX4_add_47 : decode cX4_add 47 = .ok (.iload_n 2, 1) := by decide +kernel
theorem dX4_add_48 : decode cX4_add 48 = .ok (.iconst (-1), 1) := by decide +kernel
theorem dX4_add_49 : decode cX4_add 49 = .ok (.iastore, 1) := by decide +kernel
theorem dX4_add_50 : decode cX4_add 50 = .ok (.iconst 0, 1) := by decide +kernel
theorem dX4_add_51 : decode cX4_add 51 = .ok (.istore_n 3, 1) := by decide +kernel
theorem dX4_add_52 : decode cX4_add 52 = .ok (.iload_n 3, 1) := by decide +kernel
theorem dX4_add_53 : decode cX4_add 53 = .ok (.bipush 8, 2) := by decide +kernel
theorem dX4_add_55 : decode cX4_add 55 = .ok (.if_icmp .ge 23, 3) := by decide +kernel
theorem dX4_add_58 : decode cX4_add 58 = .ok (.aload_n 0, 1) := by decide +kernel
theorem dX4_add_59 : decode cX4_add 59 = .ok (.iload_n 2, 1) := by decide +kernel
theorem dX4_add_60 : decode cX4_add 60 = .ok (.iload_n 3, 1) := by decide +kernel
theorem dX4_add_61 : decode cX4_add 61 = .ok (.iconst (-1), 1) := by decide +kernel
theorem dX4_add_62 : decode cX4_add 62 = .ok (.invokevirtual 43, 3) := by decide +kernel
theorem dX4_add_65 : decode cX4_add 65 = .ok (.aload_n 0, 1) := by decide +kernel
theorem dX4_add_66 : decode cX4_add 66 = .ok (.iload_n 2, 1) := by decide +kernel
theorem dX4_add_67 : decode cX4_add 67 = .ok (.iload_n 3, 1) := by decide +kernel
theorem dX4_add_68 : decode cX4_add 68 = .ok (.iconst (-1), 1) := by decide +kernel
theorem dX4_add_69 : decode cX4_add 69 = .ok (.invokevirtual 47, 3) := by decide +kernel
theorem dX4_add_72 : decode cX4_add 72 = .ok (.iinc 3 1, 3) := by decide +kernel
theorem dX4_add_75 : decode cX4_add 75 = .ok (.goto (-23), 3) := by decide +kernel
theorem dX4_add_78 : decode cX4_add 78 = .ok (.iload_n 2, 1) := by decide +kernel
theorem dX4_add_79 : decode cX4_add 79 = .ok (.ireturn, 1) := by decide +kernel
theorem dX4_isOpen_0 : decode cX4_isOpen 0 = .ok (.iload_n 1, 1) := by decide +kernel
theorem dX4_isOpen_1 : decode cX4_isOpen 1 = .ok (.ifCond .lt 24, 3) := by decide +kernel
theorem dX4_isOpen_4 : decode cX4_isOpen 4 = .ok (.iload_n 1, 1) := by decide +kernel
theorem dX4_isOpen_5 : decode cX4_isOpen 5 = .ok (.aload_n 0, 1) := by decide +kernel
theorem dX4_isOpen_6 : decode cX4_isOpen 6 = .ok (.getfield 33, 3) := by decide +kernel
theorem dX4_isOpen_9 : decode cX4_isOpen 9 = .ok (.if_icmp .ge 16, 3) := by decide +kernel
theorem dX4_isOpen_12 : decode cX4_isOpen 12 = .ok (.aload_n 0, 1) := by decide +kernel
theorem dX4_isOpen_13 : decode cX4_isOpen 13 = .ok (.getfield 15, 3) := by decide +kernel
theorem dX4_isOpen_16 : decode cX4_isOpen 16 = .ok (.iload_n 1, 1) := by decide +kernel
theorem dX4_isOpen_17 : decode cX4_isOpen 17 = .ok (.iaload, 1) := by decide +kernel
theorem dX4_isOpen_18 : decode cX4_isOpen 18 = .ok (.ifCond .ne 7, 3) := by decide +kernel
theorem dX4_isOpen_21 : decode cX4_isOpen 21 = .ok (.iconst 1, 1) := by decide +kernel
theorem dX4_isOpen_22 : decode cX4_isOpen 22 = .ok (.goto 4, 3) := by decide +kernel
theorem dX4_isOpen_25 : decode cX4_isOpen 25 = .ok (.iconst 0, 1) := by decide +kernel
theorem dX4_isOpen_26 : decode cX4_isOpen 26 = .ok (.ireturn, 1) := by decide +kernel
theorem dX4_bufferValue_0 : decode cX4_bufferValue 0 = .ok (.aload_n 0, 1) := by decide +kernel
theorem dX4_bufferValue_1 : decode cX4_bufferValue 1 = .ok (.getfield 27, 3) := by decide +kernel
theorem dX4_bufferValue_4 : decode cX4_bufferValue 4 = .ok (.iload_n 1, 1) := by decide +kernel
theorem dX4_bufferValue_5 : decode cX4_bufferValue 5 = .ok (.bipush 8, 2) := by decide +kernel
theorem dX4_bufferValue_7 : decode cX4_bufferValue 7 = .ok (.imul, 1) := by decide +kernel
theorem dX4_bufferValue_8 : decode cX4_bufferValue 8 = .ok (.iload_n 2, 1) := by decide +kernel
theorem dX4_bufferValue_9 : decode cX4_bufferValue 9 = .ok (.iadd, 1) := by decide +kernel
theorem dX4_bufferValue_10 : decode cX4_bufferValue 10 = .ok (.iload_n 3, 1) := by decide +kernel
theorem dX4_bufferValue_11 : decode cX4_bufferValue 11 = .ok (.iastore, 1) := by decide +kernel
theorem dX4_bufferValue_12 : decode cX4_bufferValue 12 = .ok (.return_, 1) := by decide +kernel
theorem dX4_bufferOf_0 : decode cX4_bufferOf 0 = .ok (.aload_n 0, 1) := by decide +kernel
theorem dX4_bufferOf_1 : decode cX4_bufferOf 1 = .ok (.getfield 27, 3) := by decide +kernel
theorem dX4_bufferOf_4 : decode cX4_bufferOf 4 = .ok (.iload_n 1, 1) := by decide +kernel
theorem dX4_bufferOf_5 : decode cX4_bufferOf 5 = .ok (.bipush 8, 2) := by decide +kernel
theorem dX4_bufferOf_7 : decode cX4_bufferOf 7 = .ok (.imul, 1) := by decide +kernel
theorem dX4_bufferOf_8 : decode cX4_bufferOf 8 = .ok (.iload_n 2, 1) := by decide +kernel
theorem dX4_bufferOf_9 : decode cX4_bufferOf 9 = .ok (.iadd, 1) := by decide +kernel
theorem dX4_bufferOf_10 : decode cX4_bufferOf 10 = .ok (.iaload, 1) := by decide +kernel
theorem dX4_bufferOf_11 : decode cX4_bufferOf 11 = .ok (.ireturn, 1) := by decide +kernel
theorem dX4_hasWritten_0 : decode cX4_hasWritten 0 = .ok (.aload_n 0, 1) := by decide +kernel
theorem dX4_hasWritten_1 : decode cX4_hasWritten 1 = .ok (.getfield 27, 3) := by decide +kernel
theorem dX4_hasWritten_4 : decode cX4_hasWritten 4 = .ok (.iload_n 1, 1) := by decide +kernel
theorem dX4_hasWritten_5 : decode cX4_hasWritten 5 = .ok (.bipush 8, 2) := by decide +kernel
theorem dX4_hasWritten_7 : decode cX4_hasWritten 7 = .ok (.imul, 1) := by decide +kernel
theorem dX4_hasWritten_8 : decode cX4_hasWritten 8 = .ok (.iload_n 2, 1) := by decide +kernel
theorem dX4_hasWritten_9 : decode cX4_hasWritten 9 = .ok (.iadd, 1) := by decide +kernel
theorem dX4_hasWritten_10 : decode cX4_hasWritten 10 = .ok (.iaload, 1) := by decide +kernel
theorem dX4_hasWritten_11 : decode cX4_hasWritten 11 = .ok (.iconst (-1), 1) := by decide +kernel
theorem dX4_hasWritten_12 : decode cX4_hasWritten 12 = .ok (.if_icmp .eq 7, 3) := by decide +kernel
theorem dX4_hasWritten_15 : decode cX4_hasWritten 15 = .ok (.iconst 1, 1) := by decide +kernel
theorem dX4_hasWritten_16 : decode cX4_hasWritten 16 = .ok (.goto 4, 3) := by decide +kernel
theorem dX4_hasWritten_19 : decode cX4_hasWritten 19 = .ok (.iconst 0, 1) := by decide +kernel
theorem dX4_hasWritten_20 : decode cX4_hasWritten 20 = .ok (.ireturn, 1) := by decide +kernel
theorem dX4_recordVersion_0 : decode cX4_recordVersion 0 = .ok (.aload_n 0, 1) := by decide +kernel
theorem dX4_recordVersion_1 : decode cX4_recordVersion 1 = .ok (.getfield 30, 3) := by decide +kernel
theorem dX4_recordVersion_4 : decode cX4_recordVersion 4 = .ok (.iload_n 1, 1) := by decide +kernel
theorem dX4_recordVersion_5 : decode cX4_recordVersion 5 = .ok (.bipush 8, 2) := by decide +kernel
theorem dX4_recordVersion_7 : decode cX4_recordVersion 7 = .ok (.imul, 1) := by decide +kernel
theorem dX4_recordVersion_8 : decode cX4_recordVersion 8 = .ok (.iload_n 2, 1) := by decide +kernel
theorem dX4_recordVersion_9 : decode cX4_recordVersion 9 = .ok (.iadd, 1) := by decide +kernel
theorem dX4_recordVersion_10 : decode cX4_recordVersion 10 = .ok (.iload_n 3, 1) := by decide +kernel
theorem dX4_recordVersion_11 : decode cX4_recordVersion 11 = .ok (.iastore, 1) := by decide +kernel
theorem dX4_recordVersion_12 : decode cX4_recordVersion 12 = .ok (.return_, 1) := by decide +kernel
theorem dX4_recordedVersion_0 : decode cX4_recordedVersion 0 = .ok (.aload_n 0, 1) := by decide +kernel
theorem dX4_recordedVersion_1 : decode cX4_recordedVersion 1 = .ok (.getfield 30, 3) := by decide +kernel
theorem dX4_recordedVersion_4 : decode cX4_recordedVersion 4 = .ok (.iload_n 1, 1) := by decide +kernel
theorem dX4_recordedVersion_5 : decode cX4_recordedVersion 5 = .ok (.bipush 8, 2) := by decide +kernel
theorem dX4_recordedVersion_7 : decode cX4_recordedVersion 7 = .ok (.imul, 1) := by decide +kernel
theorem dX4_recordedVersion_8 : decode cX4_recordedVersion 8 = .ok (.iload_n 2, 1) := by decide +kernel
theorem dX4_recordedVersion_9 : decode cX4_recordedVersion 9 = .ok (.iadd, 1) := by decide +kernel
theorem dX4_recordedVersion_10 : decode cX4_recordedVersion 10 = .ok (.iaload, 1) := by decide +kernel
theorem dX4_recordedVersion_11 : decode cX4_recordedVersion 11 = .ok (.ireturn, 1) := by decide +kernel
theorem dX4_hasRead_0 : decode cX4_hasRead 0 = .ok (.aload_n 0, 1) := by decide +kernel
theorem dX4_hasRead_1 : decode cX4_hasRead 1 = .ok (.getfield 30, 3) := by decide +kernel
theorem dX4_hasRead_4 : decode cX4_hasRead 4 = .ok (.iload_n 1, 1) := by decide +kernel
theorem dX4_hasRead_5 : decode cX4_hasRead 5 = .ok (.bipush 8, 2) := by decide +kernel
theorem dX4_hasRead_7 : decode cX4_hasRead 7 = .ok (.imul, 1) := by decide +kernel
theorem dX4_hasRead_8 : decode cX4_hasRead 8 = .ok (.iload_n 2, 1) := by decide +kernel
theorem dX4_hasRead_9 : decode cX4_hasRead 9 = .ok (.iadd, 1) := by decide +kernel
theorem dX4_hasRead_10 : decode cX4_hasRead 10 = .ok (.iaload, 1) := by decide +kernel
theorem dX4_hasRead_11 : decode cX4_hasRead 11 = .ok (.iconst (-1), 1) := by decide +kernel
theorem dX4_hasRead_12 : decode cX4_hasRead 12 = .ok (.if_icmp .eq 7, 3) := by decide +kernel
theorem dX4_hasRead_15 : decode cX4_hasRead 15 = .ok (.iconst 1, 1) := by decide +kernel
theorem dX4_hasRead_16 : decode cX4_hasRead 16 = .ok (.goto 4, 3) := by decide +kernel
theorem dX4_hasRead_19 : decode cX4_hasRead 19 = .ok (.iconst 0, 1) := by decide +kernel
theorem dX4_hasRead_20 : decode cX4_hasRead 20 = .ok (.ireturn, 1) := by decide +kernel
theorem dX4_hasTouched_0 : decode cX4_hasTouched 0 = .ok (.aload_n 0, 1) := by decide +kernel
theorem dX4_hasTouched_1 : decode cX4_hasTouched 1 = .ok (.iload_n 1, 1) := by decide +kernel
theorem dX4_hasTouched_2 : decode cX4_hasTouched 2 = .ok (.iload_n 2, 1) := by decide +kernel
theorem dX4_hasTouched_3 : decode cX4_hasTouched 3 = .ok (.invokevirtual 50, 3) := by decide +kernel
theorem dX4_hasTouched_6 : decode cX4_hasTouched 6 = .ok (.ifCond .ne 12, 3) := by decide +kernel
theorem dX4_hasTouched_9 : decode cX4_hasTouched 9 = .ok (.aload_n 0, 1) := by decide +kernel
theorem dX4_hasTouched_10 : decode cX4_hasTouched 10 = .ok (.iload_n 1, 1) := by decide +kernel
theorem dX4_hasTouched_11 : decode cX4_hasTouched 11 = .ok (.iload_n 2, 1) := by decide +kernel
theorem dX4_hasTouched_12 : decode cX4_hasTouched 12 = .ok (.invokevirtual 54, 3) := by decide +kernel
theorem dX4_hasTouched_15 : decode cX4_hasTouched 15 = .ok (.ifCond .eq 7, 3) := by decide +kernel
theorem dX4_hasTouched_18 : decode cX4_hasTouched 18 = .ok (.iconst 1, 1) := by decide +kernel
theorem dX4_hasTouched_19 : decode cX4_hasTouched 19 = .ok (.goto 4, 3) := by decide +kernel
theorem dX4_hasTouched_22 : decode cX4_hasTouched 22 = .ok (.iconst 0, 1) := by decide +kernel
theorem dX4_hasTouched_23 : decode cX4_hasTouched 23 = .ok (.ireturn, 1) := by decide +kernel
theorem dX4_writtenKeys_0 : decode cX4_writtenKeys 0 = .ok (.iconst 0, 1) := by decide +kernel
theorem dX4_writtenKeys_1 : decode cX4_writtenKeys 1 = .ok (.istore_n 2, 1) := by decide +kernel
theorem dX4_writtenKeys_2 : decode cX4_writtenKeys 2 = .ok (.iconst 0, 1) := by decide +kernel
theorem dX4_writtenKeys_3 : decode cX4_writtenKeys 3 = .ok (.istore_n 3, 1) := by decide +kernel
theorem dX4_writtenKeys_4 : decode cX4_writtenKeys 4 = .ok (.iload_n 3, 1) := by decide +kernel
theorem dX4_writtenKeys_5 : decode cX4_writtenKeys 5 = .ok (.bipush 8, 2) := by decide +kernel
theorem dX4_writtenKeys_7 : decode cX4_writtenKeys 7 = .ok (.if_icmp .ge 21, 3) := by decide +kernel
theorem dX4_writtenKeys_10 : decode cX4_writtenKeys 10 = .ok (.aload_n 0, 1) := by decide +kernel
theorem dX4_writtenKeys_11 : decode cX4_writtenKeys 11 = .ok (.iload_n 1, 1) := by decide +kernel
theorem dX4_writtenKeys_12 : decode cX4_writtenKeys 12 = .ok (.iload_n 3, 1) := by decide +kernel
theorem dX4_writtenKeys_13 : decode cX4_writtenKeys 13 = .ok (.invokevirtual 54, 3) := by decide +kernel
theorem dX4_writtenKeys_16 : decode cX4_writtenKeys 16 = .ok (.ifCond .eq 6, 3) := by decide +kernel
theorem dX4_writtenKeys_19 : decode cX4_writtenKeys 19 = .ok (.iinc 2 1, 3) := by decide +kernel
theorem dX4_writtenKeys_22 : decode cX4_writtenKeys 22 = .ok (.iinc 3 1, 3) := by decide +kernel
theorem dX4_writtenKeys_25 : decode cX4_writtenKeys 25 = .ok (.goto (-21), 3) := by decide +kernel
theorem dX4_writtenKeys_28 : decode cX4_writtenKeys 28 = .ok (.iload_n 2, 1) := by decide +kernel
theorem dX4_writtenKeys_29 : decode cX4_writtenKeys 29 = .ok (.ireturn, 1) := by decide +kernel
theorem dX4_locks_0 : decode cX4_locks 0 = .ok (.iconst 0, 1) := by decide +kernel
theorem dX4_locks_1 : decode cX4_locks 1 = .ok (.istore_n 3, 1) := by decide +kernel
theorem dX4_locks_2 : decode cX4_locks 2 = .ok (.iload_n 3, 1) := by decide +kernel
theorem dX4_locks_3 : decode cX4_locks 3 = .ok (.bipush 8, 2) := by decide +kernel
theorem dX4_locks_5 : decode cX4_locks 5 = .ok (.if_icmp .ge 47, 3) := by decide +kernel
theorem dX4_locks_8 : decode cX4_locks 8 = .ok (.aload_n 0, 1) := by decide +kernel
theorem dX4_locks_9 : decode cX4_locks 9 = .ok (.iload_n 1, 1) := by decide +kernel
theorem dX4_locks_10 : decode cX4_locks 10 = .ok (.iload_n 3, 1) := by decide +kernel
theorem dX4_locks_11 : decode cX4_locks 11 = .ok (.invokevirtual 54, 3) := by decide +kernel
theorem dX4_locks_14 : decode cX4_locks 14 = .ok (.ifCond .eq 12, 3) := by decide +kernel
theorem dX4_locks_17 : decode cX4_locks 17 = .ok (.aload_n 0, 1) := by decide +kernel
theorem dX4_locks_18 : decode cX4_locks 18 = .ok (.iload_n 2, 1) := by decide +kernel
theorem dX4_locks_19 : decode cX4_locks 19 = .ok (.iload_n 3, 1) := by decide +kernel
theorem dX4_locks_20 : decode cX4_locks 20 = .ok (.invokevirtual 57, 3) := by decide +kernel
theorem dX4_locks_23 : decode cX4_locks 23 = .ok (.ifCond .ne 21, 3) := by decide +kernel
theorem dX4_locks_26 : decode cX4_locks 26 = .ok (.aload_n 0, 1) := by decide +kernel
theorem dX4_locks_27 : decode cX4_locks 27 = .ok (.iload_n 1, 1) := by decide +kernel
theorem dX4_locks_28 : decode cX4_locks 28 = .ok (.iload_n 3, 1) := by decide +kernel
theorem dX4_locks_29 : decode cX4_locks 29 = .ok (.invokevirtual 50, 3) := by decide +kernel
theorem dX4_locks_32 : decode cX4_locks 32 = .ok (.ifCond .eq 14, 3) := by decide +kernel
theorem dX4_locks_35 : decode cX4_locks 35 = .ok (.aload_n 0, 1) := by decide +kernel
theorem dX4_locks_36 : decode cX4_locks 36 = .ok (.iload_n 2, 1) := by decide +kernel
theorem dX4_locks_37 : decode cX4_locks 37 = .ok (.iload_n 3, 1) := by decide +kernel
theorem dX4_locks_38 : decode cX4_locks 38 = .ok (.invokevirtual 54, 3) := by decide +kernel
theorem dX4_locks_41 : decode cX4_locks 41 = .ok (.ifCond .eq 5, 3) := by decide +kernel
theorem dX4_locks_44 : decode cX4_locks 44 = .ok (.iconst 1, 1) := by decide +kernel
theorem dX4_locks_45 : decode cX4_locks 45 = .ok (.ireturn, 1) := by decide +kernel
theorem dX4_locks_46 : decode cX4_locks 46 = .ok (.iinc 3 1, 3) := by decide +kernel
theorem dX4_locks_49 : decode cX4_locks 49 = .ok (.goto (-47), 3) := by decide +kernel
theorem dX4_locks_52 : decode cX4_locks 52 = .ok (.iconst 0, 1) := by decide +kernel
theorem dX4_locks_53 : decode cX4_locks 53 = .ok (.ireturn, 1) := by decide +kernel
theorem dX4_isLockedOut_0 : decode cX4_isLockedOut 0 = .ok (.iconst 0, 1) := by decide +kernel
theorem dX4_isLockedOut_1 : decode cX4_isLockedOut 1 = .ok (.istore_n 2, 1) := by decide +kernel
theorem dX4_isLockedOut_2 : decode cX4_isLockedOut 2 = .ok (.iload_n 2, 1) := by decide +kernel
theorem dX4_isLockedOut_3 : decode cX4_isLockedOut 3 = .ok (.aload_n 0, 1) := by decide +kernel
theorem dX4_isLockedOut_4 : decode cX4_isLockedOut 4 = .ok (.getfield 33, 3) := by decide +kernel
theorem dX4_isLockedOut_7 : decode cX4_isLockedOut 7 = .ok (.if_icmp .ge 30, 3) := by decide +kernel
theorem dX4_isLockedOut_10 : decode cX4_isLockedOut 10 = .ok (.aload_n 0, 1) := by decide +kernel
theorem dX4_isLockedOut_11 : decode cX4_isLockedOut 11 = .ok (.getfield 15, 3) := by decide +kernel
theorem dX4_isLockedOut_14 : decode cX4_isLockedOut 14 = .ok (.iload_n 2, 1) := by decide +kernel
theorem dX4_isLockedOut_15 : decode cX4_isLockedOut 15 = .ok (.iaload, 1) := by decide +kernel
theorem dX4_isLockedOut_16 : decode cX4_isLockedOut 16 = .ok (.iconst 1, 1) := by decide +kernel
theorem dX4_isLockedOut_17 : decode cX4_isLockedOut 17 = .ok (.if_icmp .ne 14, 3) := by decide +kernel
theorem dX4_isLockedOut_20 : decode cX4_isLockedOut 20 = .ok (.aload_n 0, 1) := by decide +kernel
theorem dX4_isLockedOut_21 : decode cX4_isLockedOut 21 = .ok (.iload_n 2, 1) := by decide +kernel
theorem dX4_isLockedOut_22 : decode cX4_isLockedOut 22 = .ok (.iload_n 1, 1) := by decide +kernel
theorem dX4_isLockedOut_23 : decode cX4_isLockedOut 23 = .ok (.invokevirtual 60, 3) := by decide +kernel
theorem dX4_isLockedOut_26 : decode cX4_isLockedOut 26 = .ok (.ifCond .eq 5, 3) := by decide +kernel
theorem dX4_isLockedOut_29 : decode cX4_isLockedOut 29 = .ok (.iconst 1, 1) := by decide +kernel
theorem dX4_isLockedOut_30 : decode cX4_isLockedOut 30 = .ok (.ireturn, 1) := by decide +kernel
theorem dX4_isLockedOut_31 : decode cX4_isLockedOut 31 = .ok (.iinc 2 1, 3) := by decide +kernel
theorem dX4_isLockedOut_34 : decode cX4_isLockedOut 34 = .ok (.goto (-32), 3) := by decide +kernel
theorem dX4_isLockedOut_37 : decode cX4_isLockedOut 37 = .ok (.iconst 0, 1) := by decide +kernel
theorem dX4_isLockedOut_38 : decode cX4_isLockedOut 38 = .ok (.ireturn, 1) := by decide +kernel
theorem dX4_findWaitingWriter_0 : decode cX4_findWaitingWriter 0 = .ok (.iconst 0, 1) := by decide +kernel
theorem dX4_findWaitingWriter_1 : decode cX4_findWaitingWriter 1 = .ok (.istore_n 2, 1) := by decide +kernel
theorem dX4_findWaitingWriter_2 : decode cX4_findWaitingWriter 2 = .ok (.iload_n 2, 1) := by decide +kernel
theorem dX4_findWaitingWriter_3 : decode cX4_findWaitingWriter 3 = .ok (.aload_n 0, 1) := by decide +kernel
theorem dX4_findWaitingWriter_4 : decode cX4_findWaitingWriter 4 = .ok (.getfield 33, 3) := by decide +kernel
theorem dX4_findWaitingWriter_7 : decode cX4_findWaitingWriter 7 = .ok (.if_icmp .ge 30, 3) := by decide +kernel
theorem dX4_findWaitingWriter_10 : decode cX4_findWaitingWriter 10 = .ok (.aload_n 0, 1) := by decide +kernel
theorem dX4_findWaitingWriter_11 : decode cX4_findWaitingWriter 11 = .ok (.getfield 15, 3) := by decide +kernel
theorem dX4_findWaitingWriter_14 : decode cX4_findWaitingWriter 14 = .ok (.iload_n 2, 1) := by decide +kernel
theorem dX4_findWaitingWriter_15 : decode cX4_findWaitingWriter 15 = .ok (.iaload, 1) := by decide +kernel
theorem dX4_findWaitingWriter_16 : decode cX4_findWaitingWriter 16 = .ok (.iconst 1, 1) := by decide +kernel
theorem dX4_findWaitingWriter_17 : decode cX4_findWaitingWriter 17 = .ok (.if_icmp .ne 14, 3) := by decide +kernel
theorem dX4_findWaitingWriter_20 : decode cX4_findWaitingWriter 20 = .ok (.aload_n 0, 1) := by decide +kernel
theorem dX4_findWaitingWriter_21 : decode cX4_findWaitingWriter 21 = .ok (.iload_n 2, 1) := by decide +kernel
theorem dX4_findWaitingWriter_22 : decode cX4_findWaitingWriter 22 = .ok (.iload_n 1, 1) := by decide +kernel
theorem dX4_findWaitingWriter_23 : decode cX4_findWaitingWriter 23 = .ok (.invokevirtual 54, 3) := by decide +kernel
theorem dX4_findWaitingWriter_26 : decode cX4_findWaitingWriter 26 = .ok (.ifCond .eq 5, 3) := by decide +kernel
theorem dX4_findWaitingWriter_29 : decode cX4_findWaitingWriter 29 = .ok (.iload_n 2, 1) := by decide +kernel
theorem dX4_findWaitingWriter_30 : decode cX4_findWaitingWriter 30 = .ok (.ireturn, 1) := by decide +kernel
theorem dX4_findWaitingWriter_31 : decode cX4_findWaitingWriter 31 = .ok (.iinc 2 1, 3) := by decide +kernel
theorem dX4_findWaitingWriter_34 : decode cX4_findWaitingWriter 34 = .ok (.goto (-32), 3) := by decide +kernel
theorem dX4_findWaitingWriter_37 : decode cX4_findWaitingWriter 37 = .ok (.iconst (-1), 1) := by decide +kernel
theorem dX4_findWaitingWriter_38 : decode cX4_findWaitingWriter 38 = .ok (.ireturn, 1) := by decide +kernel
theorem dX4_greatestReaderTimestamp_0 : decode cX4_greatestReaderTimestamp 0 = .ok (.iconst 0, 1) := by decide +kernel
theorem dX4_greatestReaderTimestamp_1 : decode cX4_greatestReaderTimestamp 1 = .ok (.istore_n 2, 1) := by decide +kernel
theorem dX4_greatestReaderTimestamp_2 : decode cX4_greatestReaderTimestamp 2 = .ok (.iconst 0, 1) := by decide +kernel
theorem dX4_greatestReaderTimestamp_3 : decode cX4_greatestReaderTimestamp 3 = .ok (.istore_n 3, 1) := by decide +kernel
theorem dX4_greatestReaderTimestamp_4 : decode cX4_greatestReaderTimestamp 4 = .ok (.iload_n 3, 1) := by decide +kernel
theorem dX4_greatestReaderTimestamp_5 : decode cX4_greatestReaderTimestamp 5 = .ok (.aload_n 0, 1) := by decide +kernel
theorem dX4_greatestReaderTimestamp_6 : decode cX4_greatestReaderTimestamp 6 = .ok (.getfield 33, 3) := by decide +kernel
theorem dX4_greatestReaderTimestamp_9 : decode cX4_greatestReaderTimestamp 9 = .ok (.if_icmp .ge 39, 3) := by decide +kernel
theorem dX4_greatestReaderTimestamp_12 : decode cX4_greatestReaderTimestamp 12 = .ok (.aload_n 0, 1) := by decide +kernel
theorem dX4_greatestReaderTimestamp_13 : decode cX4_greatestReaderTimestamp 13 = .ok (.getfield 15, 3) := by decide +kernel
theorem dX4_greatestReaderTimestamp_16 : decode cX4_greatestReaderTimestamp 16 = .ok (.iload_n 3, 1) := by decide +kernel
theorem dX4_greatestReaderTimestamp_17 : decode cX4_greatestReaderTimestamp 17 = .ok (.iaload, 1) := by decide +kernel
theorem dX4_greatestReaderTimestamp_18 : decode cX4_greatestReaderTimestamp 18 = .ok (.iconst 2, 1) := by decide +kernel
theorem dX4_greatestReaderTimestamp_19 : decode cX4_greatestReaderTimestamp 19 = .ok (.if_icmp .ne 23, 3) := by decide +kernel
theorem dX4_greatestReaderTimestamp_22 : decode cX4_greatestReaderTimestamp 22 = .ok (.aload_n 0, 1) := by decide +kernel
theorem dX4_greatestReaderTimestamp_23 : decode cX4_greatestReaderTimestamp 23 = .ok (.iload_n 3, 1) := by decide +kernel
theorem dX4_greatestReaderTimestamp_24 : decode cX4_greatestReaderTimestamp 24 = .ok (.iload_n 1, 1) := by decide +kernel
theorem dX4_greatestReaderTimestamp_25 : decode cX4_greatestReaderTimestamp 25 = .ok (.invokevirtual 50, 3) := by decide +kernel
theorem dX4_greatestReaderTimestamp_28 : decode cX4_greatestReaderTimestamp 28 = .ok (.ifCond .eq 14, 3) := by decide +kernel
theorem dX4_greatestReaderTimestamp_31 : decode cX4_greatestReaderTimestamp 31 = .ok (.iload_n 2, 1) := by decide +kernel
theorem dX4_greatestReaderTimestamp_32 : decode cX4_greatestReaderTimestamp 32 = .ok (.aload_n 0, 1) := by decide +kernel
theorem dX4_greatestReaderTimestamp_33 : decode cX4_greatestReaderTimestamp 33 = .ok (.getfield 18, 3) := by decide +kernel
theorem dX4_greatestReaderTimestamp_36 : decode cX4_greatestReaderTimestamp 36 = .ok (.iload_n 3, 1) := by decide +kernel
theorem dX4_greatestReaderTimestamp_37 : decode cX4_greatestReaderTimestamp 37 = .ok (.iaload, 1) := by decide +kernel
theorem dX4_greatestReaderTimestamp_38 : decode cX4_greatestReaderTimestamp 38 = .ok (.invokestatic 63, 3) := by decide +kernel
theorem dX4_greatestReaderTimestamp_41 : decode cX4_greatestReaderTimestamp 41 = .ok (.istore_n 2, 1) := by decide +kernel
theorem dX4_greatestReaderTimestamp_42 : decode cX4_greatestReaderTimestamp 42 = .ok (.iinc 3 1, 3) := by decide +kernel
theorem dX4_greatestReaderTimestamp_45 : decode cX4_greatestReaderTimestamp 45 = .ok (.goto (-41), 3) := by decide +kernel
theorem dX4_greatestReaderTimestamp_48 : decode cX4_greatestReaderTimestamp 48 = .ok (.iload_n 2, 1) := by decide +kernel
theorem dX4_greatestReaderTimestamp_49 : decode cX4_greatestReaderTimestamp 49 = .ok (.ireturn, 1) := by decide +kernel
theorem dX4_replay_0 : decode cX4_replay 0 = .ok (.iconst 0, 1) := by decide +kernel
theorem dX4_replay_1 : decode cX4_replay 1 = .ok (.istore_n 3, 1) := by decide +kernel
theorem dX4_replay_2 : decode cX4_replay 2 = .ok (.iconst 0, 1) := by decide +kernel
theorem dX4_replay_3 : decode cX4_replay 3 = .ok (.istore 4, 2) := by decide +kernel
theorem dX4_replay_5 : decode cX4_replay 5 = .ok (.iconst 0, 1) := by decide +kernel
theorem dX4_replay_6 : decode cX4_replay 6 = .ok (.istore 5, 2) := by decide +kernel
theorem dX4_replay_8 : decode cX4_replay 8 = .ok (.iload 5, 2) := by decide +kernel
theorem dX4_replay_10 : decode cX4_replay 10 = .ok (.aload_n 0, 1) := by decide +kernel
theorem dX4_replay_11 : decode cX4_replay 11 = .ok (.getfield 33, 3) := by decide +kernel
theorem dX4_replay_14 : decode cX4_replay 14 = .ok (.if_icmp .ge 70, 3) := by decide +kernel
theorem dX4_replay_17 : decode cX4_replay 17 = .ok (.aload_n 0, 1) := by decide +kernel
theorem dX4_replay_18 : decode cX4_replay 18 = .ok (.getfield 15, 3) := by decide +kernel
theorem dX4_replay_21 : decode cX4_replay 21 = .ok (.iload 5, 2) := by decide +kernel
theorem dX4_replay_23 : decode cX4_replay 23 = .ok (.iaload, 1) := by decide +kernel
theorem dX4_replay_24 : decode cX4_replay 24 = .ok (.iconst 2, 1) := by decide +kernel
theorem dX4_replay_25 : decode cX4_replay 25 = .ok (.if_icmp .ne 53, 3) := by decide +kernel
theorem dX4_replay_28 : decode cX4_replay 28 = .ok (.aload_n 0, 1) := by decide +kernel
theorem dX4_replay_29 : decode cX4_replay 29 = .ok (.iload 5, 2) := by decide +kernel
theorem dX4_replay_31 : decode cX4_replay 31 = .ok (.iload_n 1, 1) := by decide +kernel
theorem dX4_replay_32 : decode cX4_replay 32 = .ok (.invokevirtual 54, 3) := by decide +kernel
theorem dX4_replay_35 : decode cX4_replay 35 = .ok (.ifCond .eq 43, 3) := by decide +kernel
theorem dX4_replay_38 : decode cX4_replay 38 = .ok (.aload_n 0, 1) := by decide +kernel
theorem dX4_replay_39 : decode cX4_replay 39 = .ok (.getfield 18, 3) := by decide +kernel
theorem dX4_replay_42 : decode cX4_replay 42 = .ok (.iload 5, 2) := by decide +kernel
theorem dX4_replay_44 : decode cX4_replay 44 = .ok (.iaload, 1) := by decide +kernel
theorem dX4_replay_45 : decode cX4_replay 45 = .ok (.iload_n 2, 1) := by decide +kernel
theorem dX4_replay_46 : decode cX4_replay 46 = .ok (.if_icmp .gt 32, 3) := by decide +kernel
theorem dX4_replay_49 : decode cX4_replay 49 = .ok (.aload_n 0, 1) := by decide +kernel
theorem dX4_replay_50 : decode cX4_replay 50 = .ok (.getfield 18, 3) := by decide +kernel
theorem dX4_replay_53 : decode cX4_replay 53 = .ok (.iload 5, 2) := by decide +kernel
theorem dX4_replay_55 : decode cX4_replay 55 = .ok (.iaload, 1) := by decide +kernel
theorem dX4_replay_56 : decode cX4_replay 56 = .ok (.iload 4, 2) := by decide +kernel
theorem dX4_replay_58 : decode cX4_replay 58 = .ok (.if_icmp .lt 20, 3) := by decide +kernel
theorem dX4_replay_61 : decode cX4_replay 61 = .ok (.aload_n 0, 1) := by decide +kernel
theorem dX4_replay_62 : decode cX4_replay 62 = .ok (.getfield 18, 3) := by decide +kernel
theorem dX4_replay_65 : decode cX4_replay 65 = .ok (.iload 5, 2) := by decide +kernel
theorem dX4_replay_67 : decode cX4_replay 67 = .ok (.iaload, 1) := by decide +kernel
theorem dX4_replay_68 : decode cX4_replay 68 = .ok (.istore 4, 2) := by decide +kernel
theorem dX4_replay_70 : decode cX4_replay 70 = .ok (.aload_n 0, 1) := by decide +kernel
theorem dX4_replay_71 : decode cX4_replay 71 = .ok (.iload 5, 2) := by decide +kernel
theorem dX4_replay_73 : decode cX4_replay 73 = .ok (.iload_n 1, 1) := by decide +kernel
theorem dX4_replay_74 : decode cX4_replay 74 = .ok (.invokevirtual 69, 3) := by decide +kernel
theorem dX4_replay_77 : decode cX4_replay 77 = .ok (.istore_n 3, 1) := by decide +kernel
theorem dX4_replay_78 : decode cX4_replay 78 = .ok (.iinc 5 1, 3) := by decide +kernel
theorem dX4_replay_81 : decode cX4_replay 81 = .ok (.goto (-73), 3) := by decide +kernel
theorem dX4_replay_84 : decode cX4_replay 84 = .ok (.iload_n 3, 1) := by decide +kernel
theorem dX4_replay_85 : decode cX4_replay 85 = .ok (.ireturn, 1) := by decide +kernel
theorem dX4_countWithStatus_0 : decode cX4_countWithStatus 0 = .ok (.iconst 0, 1) := by decide +kernel
theorem dX4_countWithStatus_1 : decode cX4_countWithStatus 1 = .ok (.istore_n 2, 1) := by decide +kernel
theorem dX4_countWithStatus_2 : decode cX4_countWithStatus 2 = .ok (.iconst 0, 1) := by decide +kernel
theorem dX4_countWithStatus_3 : decode cX4_countWithStatus 3 = .ok (.istore_n 3, 1) := by decide +kernel
theorem dX4_countWithStatus_4 : decode cX4_countWithStatus 4 = .ok (.iload_n 3, 1) := by decide +kernel
theorem dX4_countWithStatus_5 : decode cX4_countWithStatus 5 = .ok (.aload_n 0, 1) := by decide +kernel
theorem dX4_countWithStatus_6 : decode cX4_countWithStatus 6 = .ok (.getfield 33, 3) := by decide +kernel
theorem dX4_countWithStatus_9 : decode cX4_countWithStatus 9 = .ok (.if_icmp .ge 22, 3) := by decide +kernel
theorem dX4_countWithStatus_12 : decode cX4_countWithStatus 12 = .ok (.aload_n 0, 1) := by decide +kernel
theorem dX4_countWithStatus_13 : decode cX4_countWithStatus 13 = .ok (.getfield 15, 3) := by decide +kernel
theorem dX4_countWithStatus_16 : decode cX4_countWithStatus 16 = .ok (.iload_n 3, 1) := by decide +kernel
theorem dX4_countWithStatus_17 : decode cX4_countWithStatus 17 = .ok (.iaload, 1) := by decide +kernel
theorem dX4_countWithStatus_18 : decode cX4_countWithStatus 18 = .ok (.iload_n 1, 1) := by decide +kernel
theorem dX4_countWithStatus_19 : decode cX4_countWithStatus 19 = .ok (.if_icmp .ne 6, 3) := by decide +kernel
theorem dX4_countWithStatus_22 : decode cX4_countWithStatus 22 = .ok (.iinc 2 1, 3) := by decide +kernel
theorem dX4_countWithStatus_25 : decode cX4_countWithStatus 25 = .ok (.iinc 3 1, 3) := by decide +kernel
theorem dX4_countWithStatus_28 : decode cX4_countWithStatus 28 = .ok (.goto (-24), 3) := by decide +kernel
theorem dX4_countWithStatus_31 : decode cX4_countWithStatus 31 = .ok (.iload_n 2, 1) := by decide +kernel
theorem dX4_countWithStatus_32 : decode cX4_countWithStatus 32 = .ok (.ireturn, 1) := by decide +kernel
theorem dX4_sumOfWaits_0 : decode cX4_sumOfWaits 0 = .ok (.iconst 0, 1) := by decide +kernel
theorem dX4_sumOfWaits_1 : decode cX4_sumOfWaits 1 = .ok (.istore_n 1, 1) := by decide +kernel
theorem dX4_sumOfWaits_2 : decode cX4_sumOfWaits 2 = .ok (.iconst 0, 1) := by decide +kernel
theorem dX4_sumOfWaits_3 : decode cX4_sumOfWaits 3 = .ok (.istore_n 2, 1) := by decide +kernel
theorem dX4_sumOfWaits_4 : decode cX4_sumOfWaits 4 = .ok (.iload_n 2, 1) := by decide +kernel
theorem dX4_sumOfWaits_5 : decode cX4_sumOfWaits 5 = .ok (.aload_n 0, 1) := by decide +kernel
theorem dX4_sumOfWaits_6 : decode cX4_sumOfWaits 6 = .ok (.getfield 33, 3) := by decide +kernel
theorem dX4_sumOfWaits_9 : decode cX4_sumOfWaits 9 = .ok (.if_icmp .ge 35, 3) := by decide +kernel
theorem dX4_sumOfWaits_12 : decode cX4_sumOfWaits 12 = .ok (.aload_n 0, 1) := by decide +kernel
theorem dX4_sumOfWaits_13 : decode cX4_sumOfWaits 13 = .ok (.getfield 15, 3) := by decide +kernel
theorem dX4_sumOfWaits_16 : decode cX4_sumOfWaits 16 = .ok (.iload_n 2, 1) := by decide +kernel
theorem dX4_sumOfWaits_17 : decode cX4_sumOfWaits 17 = .ok (.iaload, 1) := by decide +kernel
theorem dX4_sumOfWaits_18 : decode cX4_sumOfWaits 18 = .ok (.iconst 2, 1) := by decide +kernel
theorem dX4_sumOfWaits_19 : decode cX4_sumOfWaits 19 = .ok (.if_icmp .ne 19, 3) := by decide +kernel
theorem dX4_sumOfWaits_22 : decode cX4_sumOfWaits 22 = .ok (.iload_n 1, 1) := by decide +kernel
theorem dX4_sumOfWaits_23 : decode cX4_sumOfWaits 23 = .ok (.aload_n 0, 1) := by decide +kernel
theorem dX4_sumOfWaits_24 : decode cX4_sumOfWaits 24 = .ok (.getfield 24, 3) := by decide +kernel
theorem dX4_sumOfWaits_27 : decode cX4_sumOfWaits 27 = .ok (.iload_n 2, 1) := by decide +kernel
theorem dX4_sumOfWaits_28 : decode cX4_sumOfWaits 28 = .ok (.iaload, 1) := by decide +kernel
theorem dX4_sumOfWaits_29 : decode cX4_sumOfWaits 29 = .ok (.aload_n 0, 1) := by decide +kernel
theorem dX4_sumOfWaits_30 : decode cX4_sumOfWaits 30 = .ok (.getfield 21, 3) := by decide +kernel
theorem dX4_sumOfWaits_33 : decode cX4_sumOfWaits 33 = .ok (.iload_n 2, 1) := by decide +kernel
theorem dX4_sumOfWaits_34 : decode cX4_sumOfWaits 34 = .ok (.iaload, 1) := by decide +kernel
theorem dX4_sumOfWaits_35 : decode cX4_sumOfWaits 35 = .ok (.isub, 1) := by decide +kernel
theorem dX4_sumOfWaits_36 : decode cX4_sumOfWaits 36 = .ok (.iadd, 1) := by decide +kernel
theorem dX4_sumOfWaits_37 : decode cX4_sumOfWaits 37 = .ok (.istore_n 1, 1) := by decide +kernel
theorem dX4_sumOfWaits_38 : decode cX4_sumOfWaits 38 = .ok (.iinc 2 1, 3) := by decide +kernel
theorem dX4_sumOfWaits_41 : decode cX4_sumOfWaits 41 = .ok (.goto (-37), 3) := by decide +kernel
theorem dX4_sumOfWaits_44 : decode cX4_sumOfWaits 44 = .ok (.iload_n 1, 1) := by decide +kernel
theorem dX4_sumOfWaits_45 : decode cX4_sumOfWaits 45 = .ok (.ireturn, 1) := by decide +kernel
theorem dX4_countInversions_0 : decode cX4_countInversions 0 = .ok (.iconst 0, 1) := by decide +kernel
theorem dX4_countInversions_1 : decode cX4_countInversions 1 = .ok (.istore_n 1, 1) := by decide +kernel
theorem dX4_countInversions_2 : decode cX4_countInversions 2 = .ok (.iconst 0, 1) := by decide +kernel
theorem dX4_countInversions_3 : decode cX4_countInversions 3 = .ok (.istore_n 2, 1) := by decide +kernel
theorem dX4_countInversions_4 : decode cX4_countInversions 4 = .ok (.iload_n 2, 1) := by decide +kernel
theorem dX4_countInversions_5 : decode cX4_countInversions 5 = .ok (.aload_n 0, 1) := by decide +kernel
theorem dX4_countInversions_6 : decode cX4_countInversions 6 = .ok (.getfield 33, 3) := by decide +kernel
theorem dX4_countInversions_9 : decode cX4_countInversions 9 = .ok (.if_icmp .ge 37, 3) := by decide +kernel
theorem dX4_countInversions_12 : decode cX4_countInversions 12 = .ok (.iconst 0, 1) := by decide +kernel
theorem dX4_countInversions_13 : decode cX4_countInversions 13 = .ok (.istore_n 3, 1) := by decide +kernel
theorem dX4_countInversions_14 : decode cX4_countInversions 14 = .ok (.iload_n 3, 1) := by decide +kernel
theorem dX4_countInversions_15 : decode cX4_countInversions 15 = .ok (.aload_n 0, 1) := by decide +kernel
theorem dX4_countInversions_16 : decode cX4_countInversions 16 = .ok (.getfield 33, 3) := by decide +kernel
theorem dX4_countInversions_19 : decode cX4_countInversions 19 = .ok (.if_icmp .ge 21, 3) := by decide +kernel
theorem dX4_countInversions_22 : decode cX4_countInversions 22 = .ok (.aload_n 0, 1) := by decide +kernel
theorem dX4_countInversions_23 : decode cX4_countInversions 23 = .ok (.iload_n 2, 1) := by decide +kernel
theorem dX4_countInversions_24 : decode cX4_countInversions 24 = .ok (.iload_n 3, 1) := by decide +kernel
theorem dX4_countInversions_25 : decode cX4_countInversions 25 = .ok (.invokevirtual 72, 3) := by decide +kernel
theorem dX4_countInversions_28 : decode cX4_countInversions 28 = .ok (.ifCond .eq 6, 3) := by decide +kernel
theorem dX4_countInversions_31 : decode cX4_countInversions 31 = .ok (.iinc 1 1, 3) := by decide +kernel
theorem dX4_countInversions_34 : decode cX4_countInversions 34 = .ok (.iinc 3 1, 3) := by decide +kernel
theorem dX4_countInversions_37 : decode cX4_countInversions 37 = .ok (.goto (-23), 3) := by decide +kernel
theorem dX4_countInversions_40 : decode cX4_countInversions 40 = .ok (.iinc 2 1, 3) := by decide +kernel
theorem dX4_countInversions_43 : decode cX4_countInversions 43 = .ok (.goto (-39), 3) := by decide +kernel
theorem dX4_countInversions_46 : decode cX4_countInversions 46 = .ok (.iload_n 1, 1) := by decide +kernel
theorem dX4_countInversions_47 : decode cX4_countInversions 47 = .ok (.ireturn, 1) := by decide +kernel
theorem dX4_areInverted_0 : decode cX4_areInverted 0 = .ok (.aload_n 0, 1) := by decide +kernel
theorem dX4_areInverted_1 : decode cX4_areInverted 1 = .ok (.getfield 15, 3) := by decide +kernel
theorem dX4_areInverted_4 : decode cX4_areInverted 4 = .ok (.iload_n 1, 1) := by decide +kernel
theorem dX4_areInverted_5 : decode cX4_areInverted 5 = .ok (.iaload, 1) := by decide +kernel
theorem dX4_areInverted_6 : decode cX4_areInverted 6 = .ok (.iconst 2, 1) := by decide +kernel
theorem dX4_areInverted_7 : decode cX4_areInverted 7 = .ok (.if_icmp .ne 57, 3) := by decide +kernel
theorem dX4_areInverted_10 : decode cX4_areInverted 10 = .ok (.aload_n 0, 1) := by decide +kernel
theorem dX4_areInverted_11 : decode cX4_areInverted 11 = .ok (.getfield 15, 3) := by decide +kernel
theorem dX4_areInverted_14 : decode cX4_areInverted 14 = .ok (.iload_n 2, 1) := by decide +kernel
theorem dX4_areInverted_15 : decode cX4_areInverted 15 = .ok (.iaload, 1) := by decide +kernel
theorem dX4_areInverted_16 : decode cX4_areInverted 16 = .ok (.iconst 1, 1) := by decide +kernel
theorem dX4_areInverted_17 : decode cX4_areInverted 17 = .ok (.if_icmp .eq 13, 3) := by decide +kernel
theorem dX4_areInverted_20 : decode cX4_areInverted 20 = .ok (.aload_n 0, 1) := by decide +kernel
theorem dX4_areInverted_21 : decode cX4_areInverted 21 = .ok (.getfield 15, 3) := by decide +kernel
theorem dX4_areInverted_24 : decode cX4_areInverted 24 = .ok (.iload_n 2, 1) := by decide +kernel
theorem dX4_areInverted_25 : decode cX4_areInverted 25 = .ok (.iaload, 1) := by decide +kernel
theorem dX4_areInverted_26 : decode cX4_areInverted 26 = .ok (.iconst 2, 1) := by decide +kernel
theorem dX4_areInverted_27 : decode cX4_areInverted 27 = .ok (.if_icmp .ne 37, 3) := by decide +kernel
theorem dX4_areInverted_30 : decode cX4_areInverted 30 = .ok (.aload_n 0, 1) := by decide +kernel
theorem dX4_areInverted_31 : decode cX4_areInverted 31 = .ok (.getfield 24, 3) := by decide +kernel
theorem dX4_areInverted_34 : decode cX4_areInverted 34 = .ok (.iload_n 1, 1) := by decide +kernel
theorem dX4_areInverted_35 : decode cX4_areInverted 35 = .ok (.iaload, 1) := by decide +kernel
theorem dX4_areInverted_36 : decode cX4_areInverted 36 = .ok (.aload_n 0, 1) := by decide +kernel
theorem dX4_areInverted_37 : decode cX4_areInverted 37 = .ok (.getfield 21, 3) := by decide +kernel
theorem dX4_areInverted_40 : decode cX4_areInverted 40 = .ok (.iload_n 2, 1) := by decide +kernel
theorem dX4_areInverted_41 : decode cX4_areInverted 41 = .ok (.iaload, 1) := by decide +kernel
theorem dX4_areInverted_42 : decode cX4_areInverted 42 = .ok (.if_icmp .gt 22, 3) := by decide +kernel
theorem dX4_areInverted_45 : decode cX4_areInverted 45 = .ok (.aload_n 0, 1) := by decide +kernel
theorem dX4_areInverted_46 : decode cX4_areInverted 46 = .ok (.getfield 18, 3) := by decide +kernel
theorem dX4_areInverted_49 : decode cX4_areInverted 49 = .ok (.iload_n 1, 1) := by decide +kernel
theorem dX4_areInverted_50 : decode cX4_areInverted 50 = .ok (.iaload, 1) := by decide +kernel
theorem dX4_areInverted_51 : decode cX4_areInverted 51 = .ok (.aload_n 0, 1) := by decide +kernel
theorem dX4_areInverted_52 : decode cX4_areInverted 52 = .ok (.getfield 18, 3) := by decide +kernel
theorem dX4_areInverted_55 : decode cX4_areInverted 55 = .ok (.iload_n 2, 1) := by decide +kernel
theorem dX4_areInverted_56 : decode cX4_areInverted 56 = .ok (.iaload, 1) := by decide +kernel
theorem dX4_areInverted_57 : decode cX4_areInverted 57 = .ok (.if_icmp .lt 7, 3) := by decide +kernel
theorem dX4_areInverted_60 : decode cX4_areInverted 60 = .ok (.iconst 1, 1) := by decide +kernel
theorem dX4_areInverted_61 : decode cX4_areInverted 61 = .ok (.goto 4, 3) := by decide +kernel
theorem dX4_areInverted_64 : decode cX4_areInverted 64 = .ok (.iconst 0, 1) := by decide +kernel
theorem dX4_areInverted_65 : decode cX4_areInverted 65 = .ok (.ireturn, 1) := by decide +kernel
theorem dX5_init_0 : decode cX5_init 0 = .ok (.aload_n 0, 1) := by decide +kernel
theorem dX5_init_1 : decode cX5_init 1 = .ok (.invokespecial 3, 3) := by decide +kernel
theorem dX5_init_4 : decode cX5_init 4 = .ok (.aload_n 0, 1) := by decide +kernel
theorem dX5_init_5 : decode cX5_init 5 = .ok (.bipush 8, 2) := by decide +kernel
theorem dX5_init_7 : decode cX5_init 7 = .ok (.newarray .int, 2) := by decide +kernel
theorem dX5_init_9 : decode cX5_init 9 = .ok (.putfield 9, 3) := by decide +kernel
theorem dX5_init_12 : decode cX5_init 12 = .ok (.aload_n 0, 1) := by decide +kernel
theorem dX5_init_13 : decode cX5_init 13 = .ok (.sipush 328, 3) := by decide +kernel
theorem dX5_init_16 : decode cX5_init 16 = .ok (.newarray .int, 2) := by decide +kernel
theorem dX5_init_18 : decode cX5_init 18 = .ok (.putfield 15, 3) := by decide +kernel
theorem dX5_init_21 : decode cX5_init 21 = .ok (.aload_n 0, 1) := by decide +kernel
theorem dX5_init_22 : decode cX5_init 22 = .ok (.sipush 328, 3) := by decide +kernel
theorem dX5_init_25 : decode cX5_init 25 = .ok (.newarray .int, 2) := by decide +kernel
theorem dX5_init_27 : decode cX5_init 27 = .ok (.putfield 18, 3) := by decide +kernel
theorem dX5_init_30 : decode cX5_init 30 = .ok (.iconst 0, 1) := by decide +kernel
theorem dX5_init_31 : decode cX5_init 31 = .ok (.istore_n 1, 1) := by decide +kernel
theorem dX5_init_32 : decode cX5_init 32 = .ok (.iload_n 1, 1) := by decide +kernel
theorem dX5_init_33 : decode cX5_init 33 = .ok (.bipush 8, 2) := by decide +kernel
theorem dX5_init_35 : decode cX5_init 35 = .ok (.if_icmp .ge 16, 3) := by decide +kernel
theorem dX5_init_38 : decode cX5_init 38 = .ok (.aload_n 0, 1) := by decide +kernel
theorem dX5_init_39 : decode cX5_init 39 = .ok (.getfield 9, 3) := by decide +kernel
theorem dX5_init_42 : decode cX5_init 42 = .ok (.iload_n 1, 1) := by decide +kernel
theorem dX5_init_43 : decode cX5_init 43 = .ok (.iconst 1, 1) := by decide +kernel
theorem dX5_init_44 : decode cX5_init 44 = .ok (.iastore, 1) := by decide +kernel
theorem dX5_init_45 : decode cX5_init 45 = .ok (.iinc 1 1, 3) := by decide +kernel
theorem dX5_init_48 : decode cX5_init 48 = .ok (.goto (-16), 3) := by decide +kernel
theorem dX5_init_51 : decode cX5_init 51 = .ok (.return_, 1) := by decide +kernel
theorem dX5_copyFrom_0 : decode cX5_copyFrom 0 = .ok (.iconst 0, 1) := by decide +kernel
theorem dX5_copyFrom_1 : decode cX5_copyFrom 1 = .ok (.istore_n 2, 1) := by decide +kernel
theorem dX5_copyFrom_2 : decode cX5_copyFrom 2 = .ok (.iload_n 2, 1) := by decide +kernel
theorem dX5_copyFrom_3 : decode cX5_copyFrom 3 = .ok (.bipush 8, 2) := by decide +kernel
theorem dX5_copyFrom_5 : decode cX5_copyFrom 5 = .ok (.if_icmp .ge 71, 3) := by decide +kernel
theorem dX5_copyFrom_8 : decode cX5_copyFrom 8 = .ok (.aload_n 0, 1) := by decide +kernel
theorem dX5_copyFrom_9 : decode cX5_copyFrom 9 = .ok (.getfield 9, 3) := by decide +kernel
theorem dX5_copyFrom_12 : decode cX5_copyFrom 12 = .ok (.iload_n 2, 1) := by decide +kernel
theorem dX5_copyFrom_13 : decode cX5_copyFrom 13 = .ok (.aload_n 1, 1) := by decide +kernel
theorem dX5_copyFrom_14 : decode cX5_copyFrom 14 = .ok (.getfield 9, 3) := by decide +kernel
theorem dX5_copyFrom_17 : decode cX5_copyFrom 17 = .ok (.iload_n 2, 1) := by decide +kernel
theorem dX5_copyFrom_18 : decode cX5_copyFrom 18 = .ok (.iaload, 1) := by decide +kernel
theorem dX5_copyFrom_19 : decode cX5_copyFrom 19 = .ok (.iastore, 1) := by decide +kernel
theorem dX5_copyFrom_20 : decode cX5_copyFrom 20 = .ok (.aload_n 1, 1) := by decide +kernel
theorem dX5_copyFrom_21 : decode cX5_copyFrom 21 = .ok (.getfield 15, 3) := by decide +kernel
theorem dX5_copyFrom_24 : decode cX5_copyFrom 24 = .ok (.iload_n 2, 1) := by decide +kernel
theorem dX5_copyFrom_25 : decode cX5_copyFrom 25 = .ok (.bipush 41, 2) := by decide +kernel
theorem dX5_copyFrom_27 : decode cX5_copyFrom 27 = .ok (.imul, 1) := by decide +kernel
theorem dX5_copyFrom_28 : decode cX5_copyFrom 28 = .ok (.aload_n 0, 1) := by decide +kernel
theorem dX5_copyFrom_29 : decode cX5_copyFrom 29 = .ok (.getfield 15, 3) := by decide +kernel
theorem dX5_copyFrom_32 : decode cX5_copyFrom 32 = .ok (.iload_n 2, 1) := by decide +kernel
theorem dX5_copyFrom_33 : decode cX5_copyFrom 33 = .ok (.bipush 41, 2) := by decide +kernel
theorem dX5_copyFrom_35 : decode cX5_copyFrom 35 = .ok (.imul, 1) := by decide +kernel
theorem dX5_copyFrom_36 : decode cX5_copyFrom 36 = .ok (.aload_n 0, 1) := by decide +kernel
theorem dX5_copyFrom_37 : decode cX5_copyFrom 37 = .ok (.getfield 9, 3) := by decide +kernel
theorem dX5_copyFrom_40 : decode cX5_copyFrom 40 = .ok (.iload_n 2, 1) := by decide +kernel
theorem dX5_copyFrom_41 : decode cX5_copyFrom 41 = .ok (.iaload, 1) := by decide +kernel
theorem dX5_copyFrom_42 : decode cX5_copyFrom 42 = .ok (.invokestatic 21, 3) := by decide +kernel
theorem dX5_copyFrom_45 : decode cX5_copyFrom 45 = .ok (.aload_n 1, 1) := by decide +kernel
theorem dX5_copyFrom_46 : decode cX5_copyFrom 46 = .ok (.getfield 18, 3) := by decide +kernel
theorem dX5_copyFrom_49 : decode cX5_copyFrom 49 = .ok (.iload_n 2, 1) := by decide +kernel
theorem dX5_copyFrom_50 : decode cX5_copyFrom 50 = .ok (.bipush 41, 2) := by decide +kernel
theorem dX5_copyFrom_52 : decode cX5_copyFrom 52 = .ok (.imul, 1) := by decide +kernel
theorem dX5_copyFrom_53 : decode cX5_copyFrom 53 = .ok (.aload_n 0, 1) := by decide +kernel
theorem dX5_copyFrom_54 : decode cX5_copyFrom 54 = .ok (.getfield 18, 3) := by decide +kernel
theorem dX5_copyFrom_57 : decode cX5_copyFrom 57 = .ok (.iload_n 2, 1) := by decide +kernel
theorem dX5_copyFrom_58 : decode cX5_copyFrom 58 = .ok (.bipush 41, 2) := by decide +kernel
theorem dX5_copyFrom_60 : decode cX5_copyFrom 60 = .ok (.imul, 1) := by decide +kernel
theorem dX5_copyFrom_61 : decode cX5_copyFrom 61 = .ok (.aload_n 0, 1) := by decide +kernel
theorem dX5_copyFrom_62 : decode cX5_copyFrom 62 = .ok (.getfield 9, 3) := by decide +kernel
theorem dX5_copyFrom_65 : decode cX5_copyFrom 65 = .ok (.iload_n 2, 1) := by decide +kernel
theorem dX5_copyFrom_66 : decode cX5_copyFrom 66 = .ok (.iaload, 1) := by decide +kernel
theorem dX5_copyFrom_67 : decode cX5_copyFrom 67 = .ok (.invokestatic 21, 3) := by decide +kernel
theorem dX5_copyFrom_70 : decode cX5_copyFrom 70 = .ok (.iinc 2 1, 3) := by decide +kernel
theorem dX5_copyFrom_73 : decode cX5_copyFrom 73 = .ok (.goto (-71), 3) := by decide +kernel
theorem dX5_copyFrom_76 : decode cX5_copyFrom 76 = .ok (.return_, 1) := by decide +kernel
theorem dX5_add_0 : decode cX5_add 0 = .ok (.iload_n 1, 1) := by decide +kernel
theorem dX5_add_1 : decode cX5_add 1 = .ok (.bipush 41, 2) := by decide +kernel
theorem dX5_add_3 : decode cX5_add 3 = .ok (.imul, 1) := by decide +kernel
theorem dX5_add_4 : decode cX5_add 4 = .ok (.aload_n 0, 1) := by decide +kernel
theorem dX5_add_5 : decode cX5_add 5 = .ok (.getfield 9, 3) := by decide +kernel
theorem dX5_add_8 : decode cX5_add 8 = .ok (.iload_n 1, 1) := by decide +kernel
theorem dX5_add_9 : decode cX5_add 9 = .ok (.iaload, 1) := by decide +kernel
theorem dX5_add_10 : decode cX5_add 10 = .ok (.iadd, 1) := by decide +kernel
theorem dX5_add_11 : decode cX5_add 11 = .ok (.istore 4, 2) := by decide +kernel
theorem dX5_add_13 : decode cX5_add 13 = .ok (.aload_n 0, 1) := by decide +kernel
theorem dX5_add_14 : decode cX5_add 14 = .ok (.getfield 15, 3) := by decide +kernel
theorem dX5_add_17 : decode cX5_add 17 = .ok (.iload 4, 2) := by decide +kernel
theorem dX5_add_19 : decode cX5_add 19 = .ok (.iload_n 2, 1) := by decide +kernel
theorem dX5_add_20 : decode cX5_add 20 = .ok (.iastore, 1) := by decide +kernel
theorem dX5_add_21 : decode cX5_add 21 = .ok (.aload_n 0, 1) := by decide +kernel
theorem dX5_add_22 : decode cX5_add 22 = .ok (.getfield 18, 3) := by decide +kernel
theorem dX5_add_25 : decode cX5_add 25 = .ok (.iload 4, 2) := by decide +kernel
theorem dX5_add_27 : decode cX5_add 27 = .ok (.iload_n 3, 1) := by decide +kernel
theorem dX5_add_28 : decode cX5_add 28 = .ok (.iastore, 1) := by decide +kernel
theorem dX5_add_29 : decode cX5_add 29 = .ok (.aload_n 0, 1) := by decide +kernel
theorem dX5_add_30 : decode cX5_add 30 = .ok (.getfield 9, 3) := by decide +kernel
theorem dX5_add_33 : decode cX5_add 33 = .ok (.iload_n 1, 1) := by decide +kernel
theorem dX5_add_34 : decode cX5_add 34 = .ok (.dup2, 1) := by decide +kernel
theorem dX5_add_35 : decode cX5_add 35 = .ok (.iaload, 1) := by decide +kernel
theorem dX5_add_36 : decode cX5_add 36 = .ok (.iconst 1, 1) := by decide +kernel
theorem dX5_add_37 : decode cX5_add 37 = .ok (.iadd, 1) := by decide +kernel
theorem dX5_add_38 : decode cX5_add 38 = .ok (.iastore, 1) := by decide +kernel
theorem dX5_add_39 : decode cX5_add 39 = .ok (.return_, 1) := by decide +kernel
theorem dX5_newest_0 : decode cX5_newest 0 = .ok (.aload_n 0, 1) := by decide +kernel
theorem dX5_newest_1 : decode cX5_newest 1 = .ok (.getfield 9, 3) := by decide +kernel
theorem dX5_newest_4 : decode cX5_newest 4 = .ok (.iload_n 1, 1) := by decide +kernel
theorem dX5_newest_5 : decode cX5_newest 5 = .ok (.iaload, 1) := by decide +kernel
theorem dX5_newest_6 : decode cX5_newest 6 = .ok (.iconst 1, 1) := by decide +kernel
theorem dX5_newest_7 : decode cX5_newest 7 = .ok (.isub, 1) := by decide +kernel
theorem dX5_newest_8 : decode cX5_newest 8 = .ok (.ireturn, 1) := by decide +kernel
theorem dX5_timestampOf_0 : decode cX5_timestampOf 0 = .ok (.aload_n 0, 1) := by decide +kernel
theorem dX5_timestampOf_1 : decode cX5_timestampOf 1 = .ok (.getfield 15, 3) := by decide +kernel
theorem dX5_timestampOf_4 : decode cX5_timestampOf 4 = .ok (.iload_n 1, 1) := by decide +kernel
theorem dX5_timestampOf_5 : decode cX5_timestampOf 5 = .ok (.bipush 41, 2) := by decide +kernel
theorem dX5_timestampOf_7 : decode cX5_timestampOf 7 = .ok (.imul, 1) := by decide +kernel
theorem dX5_timestampOf_8 : decode cX5_timestampOf 8 = .ok (.iload_n 2, 1) := by decide +kernel
theorem dX5_timestampOf_9 : decode cX5_timestampOf 9 = .ok (.iadd, 1) := by decide +kernel
theorem dX5_timestampOf_10 : decode cX5_timestampOf 10 = .ok (.iaload, 1) := by decide +kernel
theorem dX5_timestampOf_11 : decode cX5_timestampOf 11 = .ok (.ireturn, 1) := by decide +kernel
theorem dX5_valueOfVersion_0 : decode cX5_valueOfVersion 0 = .ok (.aload_n 0, 1) := by decide +kernel
theorem dX5_valueOfVersion_1 : decode cX5_valueOfVersion 1 = .ok (.getfield 18, 3) := by decide +kernel
theorem dX5_valueOfVersion_4 : decode cX5_valueOfVersion 4 = .ok (.iload_n 1, 1) := by decide +kernel
theorem dX5_valueOfVersion_5 : decode cX5_valueOfVersion 5 = .ok (.bipush 41, 2) := by decide +kernel
theorem dX5_valueOfVersion_7 : decode cX5_valueOfVersion 7 = .ok (.imul, 1) := by decide +kernel
theorem dX5_valueOfVersion_8 : decode cX5_valueOfVersion 8 = .ok (.iload_n 2, 1) := by decide +kernel
theorem dX5_valueOfVersion_9 : decode cX5_valueOfVersion 9 = .ok (.iadd, 1) := by decide +kernel
theorem dX5_valueOfVersion_10 : decode cX5_valueOfVersion 10 = .ok (.iaload, 1) := by decide +kernel
theorem dX5_valueOfVersion_11 : decode cX5_valueOfVersion 11 = .ok (.ireturn, 1) := by decide +kernel
theorem dX5_valueOf_0 : decode cX5_valueOf 0 = .ok (.aload_n 0, 1) := by decide +kernel
theorem dX5_valueOf_1 : decode cX5_valueOf 1 = .ok (.iload_n 1, 1) := by decide +kernel
theorem dX5_valueOf_2 : decode cX5_valueOf 2 = .ok (.invokevirtual 27, 3) := by decide +kernel
theorem dX5_valueOf_5 : decode cX5_valueOf 5 = .ok (.istore_n 3, 1) := by decide +kernel
theorem dX5_valueOf_6 : decode cX5_valueOf 6 = .ok (.iload_n 3, 1) := by decide +kernel
theorem dX5_valueOf_7 : decode cX5_valueOf 7 = .ok (.ifCond .le 19, 3) := by decide +kernel
theorem dX5_valueOf_10 : decode cX5_valueOf 10 = .ok (.aload_n 0, 1) := by decide +kernel
theorem dX5_valueOf_11 : decode cX5_valueOf 11 = .ok (.iload_n 1, 1) := by decide +kernel
theorem dX5_valueOf_12 : decode cX5_valueOf 12 = .ok (.iload_n 3, 1) := by decide +kernel
theorem dX5_valueOf_13 : decode cX5_valueOf 13 = .ok (.invokevirtual 31, 3) := by decide +kernel
theorem dX5_valueOf_16 : decode cX5_valueOf 16 = .ok (.iload_n 2, 1) := by decide +kernel
theorem dX5_valueOf_17 : decode cX5_valueOf 17 = .ok (.if_icmp .le 9, 3) := by decide +kernel
theorem dX5_valueOf_20 : decode cX5_valueOf 20 = .ok (.iinc 3 (-1), 3) := by decide +kernel
theorem dX5_valueOf_23 : decode cX5_valueOf 23 = .ok (.goto (-17), 3) := by decide +kernel
theorem dX5_valueOf_26 : decode cX5_valueOf 26 = .ok (.aload_n 0, 1) := by decide +kernel
theorem dX5_valueOf_27 : decode cX5_valueOf 27 = .ok (.iload_n 1, 1) := by decide +kernel
theorem dX5_valueOf_28 : decode cX5_valueOf 28 = .ok (.iload_n 3, 1) := by decide +kernel
theorem dX5_valueOf_29 : decode cX5_valueOf 29 = .ok (.invokevirtual 35, 3) := by decide +kernel
theorem dX5_valueOf_32 : decode cX5_valueOf 32 = .ok (.ireturn, 1) := by decide +kernel
theorem dX6_init_0 : decode cX6_init 0 = .ok (.aload_n 0, 1) := by decide +kernel
theorem dX6_init_1 : decode cX6_init 1 = .ok (.invokespecial 1, 3) := by decide +kernel
theorem dX6_init_4 : decode cX6_init 4 = .ok (.aload_n 0, 1) := by decide +kernel
theorem dX6_init_5 : decode cX6_init 5 = .ok (.new 7, 3) := by decide +kernel
theorem dX6_init_8 : decode cX6_init 8 = .ok (.dup, 1) := by decide +kernel
theorem dX6_init_9 : decode cX6_init 9 = .ok (.invokespecial 9, 3) := by decide +kernel
theorem dX6_init_12 : decode cX6_init 12 = .ok (.putfield 10, 3) := by decide +kernel
theorem dX6_init_15 : decode cX6_init 15 = .ok (.aload_n 0, 1) := by decide +kernel
theorem dX6_init_16 : decode cX6_init 16 = .ok (.new 16, 3) := by decide +kernel
theorem dX6_init_19 : decode cX6_init 19 = .ok (.dup, 1) := by decide +kernel
theorem dX6_init_20 : decode cX6_init 20 = .ok (.invokespecial 18, 3) := by decide +kernel
theorem dX6_init_23 : decode cX6_init 23 = .ok (.putfield 19, 3) := by decide +kernel
theorem dX6_init_26 : decode cX6_init 26 = .ok (.aload_n 0, 1) := by decide +kernel
theorem dX6_init_27 : decode cX6_init 27 = .ok (.iconst 2, 1) := by decide +kernel
theorem dX6_init_28 : decode cX6_init 28 = .ok (.anewarray 7, 3) := by decide +kernel
theorem dX6_init_31 : decode cX6_init 31 = .ok (.putfield 23, 3) := by decide +kernel
theorem dX6_init_34 : decode cX6_init 34 = .ok (.aload_n 0, 1) := by decide +kernel
theorem dX6_init_35 : decode cX6_init 35 = .ok (.iconst 2, 1) := by decide +kernel
theorem dX6_init_36 : decode cX6_init 36 = .ok (.newarray .boolean, 2) := by decide +kernel
theorem dX6_init_38 : decode cX6_init 38 = .ok (.putfield 27, 3) := by decide +kernel
theorem dX6_init_41 : decode cX6_init 41 = .ok (.aload_n 0, 1) := by decide +kernel
theorem dX6_init_42 : decode cX6_init 42 = .ok (.new 31, 3) := by decide +kernel
theorem dX6_init_45 : decode cX6_init 45 = .ok (.dup, 1) := by decide +kernel
theorem dX6_init_46 : decode cX6_init 46 = .ok (.invokespecial 33, 3) := by decide +kernel
theorem dX6_init_49 : decode cX6_init 49 = .ok (.putfield 34, 3) := by decide +kernel
theorem dX6_init_52 : decode cX6_init 52 = .ok (.iconst 0, 1) := by decide +kernel
theorem dX6_init_53 : decode cX6_init 53 = .ok (.istore_n 1, 1) := by decide +kernel
theorem dX6_init_54 : decode cX6_init 54 = .ok (.iload_n 1, 1) := by decide +kernel
theorem dX6_init_55 : decode cX6_init 55 = .ok (.iconst 2, 1) := by decide +kernel
theorem dX6_init_56 : decode cX6_init 56 = .ok (.if_icmp .ge 22, 3) := by decide +kernel
theorem dX6_init_59 : decode cX6_init 59 = .ok (.aload_n 0, 1) := by decide +kernel
theorem dX6_init_60 : decode cX6_init 60 = .ok (.getfield 23, 3) := by decide +kernel
theorem dX6_init_63 : decode cX6_init 63 = .ok (.iload_n 1, 1) := by decide +kernel
theorem dX6_init_64 : decode cX6_init 64 = .ok (.new 7, 3) := by decide +kernel
theorem dX6_init_67 : decode cX6_init 67 = .ok (.dup, 1) := by decide +kernel
theorem dX6_init_68 : decode cX6_init 68 = .ok (.invokespecial 9, 3) := by decide +kernel
theorem dX6_init_71 : decode cX6_init 71 = .ok (.aastore, 1) := by decide +kernel
theorem dX6_init_72 : decode cX6_init 72 = .ok (.iinc 1 1, 3) := by decide +kernel
theorem dX6_init_75 : decode cX6_init 75 = .ok (.goto (-21), 3) := by decide +kernel
theorem dX6_init_78 : decode cX6_init 78 = .ok (.return_, 1) := by decide +kernel
theorem dX6_begin_0 : decode cX6_begin 0 = .ok (.aload_n 0, 1) := by decide +kernel
theorem dX6_begin_1 : decode cX6_begin 1 = .ok (.iload_n 1, 1) := by decide +kernel
theorem dX6_begin_2 : decode cX6_begin 2 = .ok (.invokevirtual 38, 3) := by decide +kernel
theorem dX6_begin_5 : decode cX6_begin 5 = .ok (.aload_n 0, 1) := by decide +kernel
theorem dX6_begin_6 : decode cX6_begin 6 = .ok (.getfield 10, 3) := by decide +kernel
theorem dX6_begin_9 : decode cX6_begin 9 = .ok (.invokevirtual 42, 3) := by decide +kernel
theorem dX6_begin_12 : decode cX6_begin 12 = .ok (.ifCond .ne 13, 3) := by decide +kernel
theorem dX6_begin_15 : decode cX6_begin 15 = .ok (.new 46, 3) := by decide +kernel
theorem dX6_begin_18 : decode cX6_begin 18 = .ok (.dup, 1) := by decide +kernel
theorem dX6_begin_19 : decode cX6_begin 19 = .ok (.ldc 48, 2) := by decide +kernel
theorem dX6_begin_21 : decode cX6_begin 21 = .ok (.invokespecial 50, 3) := by decide +kernel
theorem dX6_begin_24 : decode cX6_begin 24 = .ok (.athrow, 1) := by decide +kernel
theorem dX6_begin_25 : decode cX6_begin 25 = .ok (.aload_n 0, 1) := by decide +kernel
theorem dX6_begin_26 : decode cX6_begin 26 = .ok (.getfield 19, 3) := by decide +kernel
theorem dX6_begin_29 : decode cX6_begin 29 = .ok (.aload_n 0, 1) := by decide +kernel
theorem dX6_begin_30 : decode cX6_begin 30 = .ok (.getfield 10, 3) := by decide +kernel
theorem dX6_begin_33 : decode cX6_begin 33 = .ok (.invokevirtual 53, 3) := by decide +kernel
theorem dX6_begin_36 : decode cX6_begin 36 = .ok (.aload_n 0, 1) := by decide +kernel
theorem dX6_begin_37 : decode cX6_begin 37 = .ok (.getfield 10, 3) := by decide +kernel
theorem dX6_begin_40 : decode cX6_begin 40 = .ok (.iload_n 1, 1) := by decide +kernel
theorem dX6_begin_41 : decode cX6_begin 41 = .ok (.invokevirtual 57, 3) := by decide +kernel
theorem dX6_begin_44 : decode cX6_begin 44 = .ok (.ireturn, 1) := by decide +kernel
theorem dX6_read_0 : decode cX6_read 0 = .ok (.aload_n 0, 1) := by decide +kernel
theorem dX6_read_1 : decode cX6_read 1 = .ok (.iload_n 1, 1) := by decide +kernel
theorem dX6_read_2 : decode cX6_read 2 = .ok (.invokevirtual 61, 3) := by decide +kernel
theorem dX6_read_5 : decode cX6_read 5 = .ok (.aload_n 0, 1) := by decide +kernel
theorem dX6_read_6 : decode cX6_read 6 = .ok (.iload_n 2, 1) := by decide +kernel
theorem dX6_read_7 : decode cX6_read 7 = .ok (.invokevirtual 64, 3) := by decide +kernel
theorem dX6_read_10 : decode cX6_read 10 = .ok (.aload_n 0, 1) := by decide +kernel
theorem dX6_read_11 : decode cX6_read 11 = .ok (.iload_n 1, 1) := by decide +kernel
theorem dX6_read_12 : decode cX6_read 12 = .ok (.invokevirtual 67, 3) := by decide +kernel
theorem dX6_read_15 : decode cX6_read 15 = .ok (.aload_n 0, 1) := by decide +kernel
theorem dX6_read_16 : decode cX6_read 16 = .ok (.getfield 19, 3) := by decide +kernel
theorem dX6_read_19 : decode cX6_read 19 = .ok (.aload_n 0, 1) := by decide +kernel
theorem dX6_read_20 : decode cX6_read 20 = .ok (.getfield 10, 3) := by decide +kernel
theorem dX6_read_23 : decode cX6_read 23 = .ok (.invokevirtual 53, 3) := by decide +kernel
theorem dX6_read_26 : decode cX6_read 26 = .ok (.aload_n 0, 1) := by decide +kernel
theorem dX6_read_27 : decode cX6_read 27 = .ok (.getfield 10, 3) := by decide +kernel
theorem dX6_read_30 : decode cX6_read 30 = .ok (.iload_n 1, 1) := by decide +kernel
theorem dX6_read_31 : decode cX6_read 31 = .ok (.iload_n 2, 1) := by decide +kernel
theorem dX6_read_32 : decode cX6_read 32 = .ok (.invokevirtual 70, 3) := by decide +kernel
theorem dX6_read_35 : decode cX6_read 35 = .ok (.ireturn, 1) := by decide +kernel
theorem dX6_write_0 : decode cX6_write 0 = .ok (.aload_n 0, 1) := by decide +kernel
theorem dX6_write_1 : decode cX6_write 1 = .ok (.iload_n 1, 1) := by decide +kernel
theorem dX6_write_2 : decode cX6_write 2 = .ok (.invokevirtual 61, 3) := by decide +kernel
theorem dX6_write_5 : decode cX6_write 5 = .ok (.aload_n 0, 1) := by decide +kernel
theorem dX6_write_6 : decode cX6_write 6 = .ok (.iload_n 2, 1) := by decide +kernel
theorem dX6_write_7 : decode cX6_write 7 = .ok (.invokevirtual 64, 3) := by decide +kernel
theorem dX6_write_10 : decode cX6_write 10 = .ok (.aload_n 0, 1) := by decide +kernel
theorem dX6_write_11 : decode cX6_write 11 = .ok (.iload_n 3, 1) := by decide +kernel
theorem dX6_write_12 : decode cX6_write 12 = .ok (.iconst 0, 1) := by decide +kernel
theorem dX6_write_13 : decode cX6_write 13 = .ok (.sipush 9999, 3) := by decide +kernel
theorem dX6_write_16 : decode cX6_write 16 = .ok (.invokevirtual 74, 3) := by decide +kernel
theorem dX6_write_19 : decode cX6_write 19 = .ok (.aload_n 0, 1) := by decide +kernel
theorem dX6_write_20 : decode cX6_write 20 = .ok (.iload_n 1, 1) := by decide +kernel
theorem dX6_write_21 : decode cX6_write 21 = .ok (.invokevirtual 67, 3) := by decide +kernel
theorem dX6_write_24 : decode cX6_write 24 = .ok (.aload_n 0, 1) := by decide +kernel
theorem dX6_write_25 : decode cX6_write 25 = .ok (.getfield 19, 3) := by decide +kernel
theorem dX6_write_28 : decode cX6_write 28 = .ok (.aload_n 0, 1) := by decide +kernel
theorem dX6_write_29 : decode cX6_write 29 = .ok (.getfield 10, 3) := by decide +kernel
theorem dX6_write_32 : decode cX6_write 32 = .ok (.invokevirtual 53, 3) := by decide +kernel
theorem dX6_write_35 : decode cX6_write 35 = .ok (.aload_n 0, 1) := by decide +kernel
theorem dX6_write_36 : decode cX6_write 36 = .ok (.getfield 10, 3) := by decide +kernel
theorem dX6_write_39 : decode cX6_write 39 = .ok (.iload_n 1, 1) := by decide +kernel
theorem dX6_write_40 : decode cX6_write 40 = .ok (.iload_n 2, 1) := by decide +kernel
theorem dX6_write_41 : decode cX6_write 41 = .ok (.iload_n 3, 1) := by decide +kernel
theorem dX6_write_42 : decode cX6_write 42 = .ok (.invokevirtual 78, 3) := by decide +kernel
theorem dX6_write_45 : decode cX6_write 45 = .ok (.ireturn, 1) := by decide +kernel
theorem dX6_commit_0 : decode cX6_commit 0 = .ok (.aload_n 0, 1) := by decide +kernel
theorem dX6_commit_1 : decode cX6_commit 1 = .ok (.iload_n 1, 1) := by decide +kernel
theorem dX6_commit_2 : decode cX6_commit 2 = .ok (.invokevirtual 61, 3) := by decide +kernel
theorem dX6_commit_5 : decode cX6_commit 5 = .ok (.aload_n 0, 1) := by decide +kernel
theorem dX6_commit_6 : decode cX6_commit 6 = .ok (.iload_n 1, 1) := by decide +kernel
theorem dX6_commit_7 : decode cX6_commit 7 = .ok (.invokevirtual 67, 3) := by decide +kernel
theorem dX6_commit_10 : decode cX6_commit 10 = .ok (.aload_n 0, 1) := by decide +kernel
theorem dX6_commit_11 : decode cX6_commit 11 = .ok (.getfield 10, 3) := by decide +kernel
theorem dX6_commit_14 : decode cX6_commit 14 = .ok (.iload_n 1, 1) := by decide +kernel
theorem dX6_commit_15 : decode cX6_commit 15 = .ok (.invokevirtual 82, 3) := by decide +kernel
theorem dX6_commit_18 : decode cX6_commit 18 = .ok (.istore_n 2, 1) := by decide +kernel
theorem dX6_commit_19 : decode cX6_commit 19 = .ok (.iload_n 2, 1) := by decide +kernel
theorem dX6_commit_20 : decode cX6_commit 20 = .ok (.bipush (-3), 2) := by decide +kernel
theorem dX6_commit_22 : decode cX6_commit 22 = .ok (.if_icmp .eq 23, 3) := by decide +kernel
theorem dX6_commit_25 : decode cX6_commit 25 = .ok (.aload_n 0, 1) := by decide +kernel
theorem dX6_commit_26 : decode cX6_commit 26 = .ok (.getfield 19, 3) := by decide +kernel
theorem dX6_commit_29 : decode cX6_commit 29 = .ok (.aload_n 0, 1) := by decide +kernel
theorem dX6_commit_30 : decode cX6_commit 30 = .ok (.getfield 10, 3) := by decide +kernel
theorem dX6_commit_33 : decode cX6_commit 33 = .ok (.invokevirtual 53, 3) := by decide +kernel
theorem dX6_commit_36 : decode cX6_commit 36 = .ok (.aload_n 0, 1) := by decide +kernel
theorem dX6_commit_37 : decode cX6_commit 37 = .ok (.getfield 10, 3) := by decide +kernel
theorem dX6_commit_40 : decode cX6_commit 40 = .ok (.iload_n 2, 1) := by decide +kernel
theorem dX6_commit_41 : decode cX6_commit 41 = .ok (.iload_n 1, 1) := by decide +kernel
theorem dX6_commit_42 : decode cX6_commit 42 = .ok (.invokevirtual 85, 3) := by decide +kernel
theorem dX6_commit_45 : decode cX6_commit 45 = .ok (.iload_n 2, 1) := by decide +kernel
theorem dX6_commit_46 : decode cX6_commit 46 = .ok (.ireturn, 1) := by decide +kernel
theorem dX6_abort_0 : decode cX6_abort 0 = .ok (.aload_n 0, 1) := by decide +kernel
theorem dX6_abort_1 : decode cX6_abort 1 = .ok (.iload_n 1, 1) := by decide +kernel
theorem dX6_abort_2 : decode cX6_abort 2 = .ok (.invokevirtual 61, 3) := by decide +kernel
theorem dX6_abort_5 : decode cX6_abort 5 = .ok (.aload_n 0, 1) := by decide +kernel
theorem dX6_abort_6 : decode cX6_abort 6 = .ok (.iload_n 1, 1) := by decide +kernel
theorem dX6_abort_7 : decode cX6_abort 7 = .ok (.invokevirtual 67, 3) := by decide +kernel
theorem dX6_abort_10 : decode cX6_abort 10 = .ok (.aload_n 0, 1) := by decide +kernel
theorem dX6_abort_11 : decode cX6_abort 11 = .ok (.getfield 19, 3) := by decide +kernel
theorem dX6_abort_14 : decode cX6_abort 14 = .ok (.aload_n 0, 1) := by decide +kernel
theorem dX6_abort_15 : decode cX6_abort 15 = .ok (.getfield 10, 3) := by decide +kernel
theorem dX6_abort_18 : decode cX6_abort 18 = .ok (.invokevirtual 53, 3) := by decide +kernel
theorem dX6_abort_21 : decode cX6_abort 21 = .ok (.aload_n 0, 1) := by decide +kernel
theorem dX6_abort_22 : decode cX6_abort 22 = .ok (.getfield 10, 3) := by decide +kernel
theorem dX6_abort_25 : decode cX6_abort 25 = .ok (.iload_n 1, 1) := by decide +kernel
theorem dX6_abort_26 : decode cX6_abort 26 = .ok (.invokevirtual 89, 3) := by decide +kernel
theorem dX6_abort_29 : decode cX6_abort 29 = .ok (.ireturn, 1) := by decide +kernel
theorem dX6_advance_0 : decode cX6_advance 0 = .ok (.aload_n 0, 1) := by decide +kernel
theorem dX6_advance_1 : decode cX6_advance 1 = .ok (.iload_n 1, 1) := by decide +kernel
theorem dX6_advance_2 : decode cX6_advance 2 = .ok (.iconst 1, 1) := by decide +kernel
theorem dX6_advance_3 : decode cX6_advance 3 = .ok (.sipush 1000, 3) := by decide +kernel
theorem dX6_advance_6 : decode cX6_advance 6 = .ok (.invokevirtual 74, 3) := by decide +kernel
theorem dX6_advance_9 : decode cX6_advance 9 = .ok (.aload_n 0, 1) := by decide +kernel
theorem dX6_advance_10 : decode cX6_advance 10 = .ok (.getfield 10, 3) := by decide +kernel
theorem dX6_advance_13 : decode cX6_advance 13 = .ok (.iload_n 1, 1) := by decide +kernel
theorem dX6_advance_14 : decode cX6_advance 14 = .ok (.invokevirtual 92, 3) := by decide +kernel
theorem dX6_advance_17 : decode cX6_advance 17 = .ok (.ifCond .ne 13, 3) := by decide +kernel
theorem dX6_advance_20 : decode cX6_advance 20 = .ok (.new 46, 3) := by decide +kernel
theorem dX6_advance_23 : decode cX6_advance 23 = .ok (.dup, 1) := by decide +kernel
theorem dX6_advance_24 : decode cX6_advance 24 = .ok (.ldc 96, 2) := by decide +kernel
theorem dX6_advance_26 : decode cX6_advance 26 = .ok (.invokespecial 50, 3) := by decide +kernel
theorem dX6_advance_29 : decode cX6_advance 29 = .ok (.athrow, 1) := by decide +kernel
theorem dX6_advance_30 : decode cX6_advance 30 = .ok (.aload_n 0, 1) := by decide +kernel
theorem dX6_advance_31 : decode cX6_advance 31 = .ok (.getfield 19, 3) := by decide +kernel
theorem dX6_advance_34 : decode cX6_advance 34 = .ok (.aload_n 0, 1) := by decide +kernel
theorem dX6_advance_35 : decode cX6_advance 35 = .ok (.getfield 10, 3) := by decide +kernel
theorem dX6_advance_38 : decode cX6_advance 38 = .ok (.invokevirtual 53, 3) := by decide +kernel
theorem dX6_advance_41 : decode cX6_advance 41 = .ok (.aload_n 0, 1) := by decide +kernel
theorem dX6_advance_42 : decode cX6_advance 42 = .ok (.getfield 10, 3) := by decide +kernel
theorem dX6_advance_45 : decode cX6_advance 45 = .ok (.iload_n 1, 1) := by decide +kernel
theorem dX6_advance_46 : decode cX6_advance 46 = .ok (.invokevirtual 98, 3) := by decide +kernel
theorem dX6_advance_49 : decode cX6_advance 49 = .ok (.ireturn, 1) := by decide +kernel
theorem dX6_synchronize_0 : decode cX6_synchronize 0 = .ok (.aload_n 0, 1) := by decide +kernel
theorem dX6_synchronize_1 : decode cX6_synchronize 1 = .ok (.iload_n 1, 1) := by decide +kernel
theorem dX6_synchronize_2 : decode cX6_synchronize 2 = .ok (.invokevirtual 38, 3) := by decide +kernel
theorem dX6_synchronize_5 : decode cX6_synchronize 5 = .ok (.aload_n 0, 1) := by decide +kernel
theorem dX6_synchronize_6 : decode cX6_synchronize 6 = .ok (.iload_n 2, 1) := by decide +kernel
theorem dX6_synchronize_7 : decode cX6_synchronize 7 = .ok (.sipush (-500), 3) := by decide +kernel
theorem dX6_synchronize_10 : decode cX6_synchronize 10 = .ok (.sipush 500, 3) := by decide +kernel
theorem dX6_synchronize_13 : decode cX6_synchronize 13 = .ok (.invokevirtual 74, 3) := by decide +kernel
theorem dX6_synchronize_16 : decode cX6_synchronize 16 = .ok (.aload_n 0, 1) := by decide +kernel
theorem dX6_synchronize_17 : decode cX6_synchronize 17 = .ok (.getfield 19, 3) := by decide +kernel
theorem dX6_synchronize_20 : decode cX6_synchronize 20 = .ok (.aload_n 0, 1) := by decide +kernel
theorem dX6_synchronize_21 : decode cX6_synchronize 21 = .ok (.getfield 10, 3) := by decide +kernel
theorem dX6_synchronize_24 : decode cX6_synchronize 24 = .ok (.invokevirtual 53, 3) := by decide +kernel
theorem dX6_synchronize_27 : decode cX6_synchronize 27 = .ok (.aload_n 0, 1) := by decide +kernel
theorem dX6_synchronize_28 : decode cX6_synchronize 28 = .ok (.getfield 10, 3) := by decide +kernel
theorem dX6_synchronize_31 : decode cX6_synchronize 31 = .ok (.iload_n 1, 1) := by decide +kernel
theorem dX6_synchronize_32 : decode cX6_synchronize 32 = .ok (.iload_n 2, 1) := by decide +kernel
theorem dX6_synchronize_33 : decode cX6_synchronize 33 = .ok (.invokevirtual 101, 3) := by decide +kernel
theorem dX6_synchronize_36 : decode cX6_synchronize 36 = .ok (.ireturn, 1) := by decide +kernel
theorem dX6_setDrift_0 : decode cX6_setDrift 0 = .ok (.aload_n 0, 1) := by decide +kernel
theorem dX6_setDrift_1 : decode cX6_setDrift 1 = .ok (.iload_n 1, 1) := by decide +kernel
theorem dX6_setDrift_2 : decode cX6_setDrift 2 = .ok (.invokevirtual 38, 3) := by decide +kernel
theorem dX6_setDrift_5 : decode cX6_setDrift 5 = .ok (.aload_n 0, 1) := by decide +kernel
theorem dX6_setDrift_6 : decode cX6_setDrift 6 = .ok (.iload_n 2, 1) := by decide +kernel
theorem dX6_setDrift_7 : decode cX6_setDrift 7 = .ok (.bipush (-100), 2) := by decide +kernel
theorem dX6_setDrift_9 : decode cX6_setDrift 9 = .ok (.bipush 100, 2) := by decide +kernel
theorem dX6_setDrift_11 : decode cX6_setDrift 11 = .ok (.invokevirtual 74, 3) := by decide +kernel
theorem dX6_setDrift_14 : decode cX6_setDrift 14 = .ok (.aload_n 0, 1) := by decide +kernel
theorem dX6_setDrift_15 : decode cX6_setDrift 15 = .ok (.getfield 19, 3) := by decide +kernel
theorem dX6_setDrift_18 : decode cX6_setDrift 18 = .ok (.aload_n 0, 1) := by decide +kernel
theorem dX6_setDrift_19 : decode cX6_setDrift 19 = .ok (.getfield 10, 3) := by decide +kernel
theorem dX6_setDrift_22 : decode cX6_setDrift 22 = .ok (.invokevirtual 53, 3) := by decide +kernel
theorem dX6_setDrift_25 : decode cX6_setDrift 25 = .ok (.aload_n 0, 1) := by decide +kernel
theorem dX6_setDrift_26 : decode cX6_setDrift 26 = .ok (.getfield 10, 3) := by decide +kernel
theorem dX6_setDrift_29 : decode cX6_setDrift 29 = .ok (.getfield 104, 3) := by decide +kernel
theorem dX6_setDrift_32 : decode cX6_setDrift 32 = .ok (.iload_n 1, 1) := by decide +kernel
theorem dX6_setDrift_33 : decode cX6_setDrift 33 = .ok (.aaload, 1) := by decide +kernel
theorem dX6_setDrift_34 : decode cX6_setDrift 34 = .ok (.iload_n 2, 1) := by decide +kernel
theorem dX6_setDrift_35 : decode cX6_setDrift 35 = .ok (.aload_n 0, 1) := by decide +kernel
theorem dX6_setDrift_36 : decode cX6_setDrift 36 = .ok (.getfield 10, 3) := by decide +kernel
theorem dX6_setDrift_39 : decode cX6_setDrift 39 = .ok (.getfield 108, 3) := by decide +kernel
theorem dX6_setDrift_42 : decode cX6_setDrift 42 = .ok (.invokevirtual 112, 3) := by decide +kernel
theorem dX6_setDrift_45 : decode cX6_setDrift 45 = .ok (.ireturn, 1) := by decide +kernel
theorem dX6_setUncertainty_0 : decode cX6_setUncertainty 0 = .ok (.aload_n 0, 1) := by decide +kernel
theorem dX6_setUncertainty_1 : decode cX6_setUncertainty 1 = .ok (.iload_n 1, 1) := by decide +kernel
theorem dX6_setUncertainty_2 : decode cX6_setUncertainty 2 = .ok (.invokevirtual 38, 3) := by decide +kernel
theorem dX6_setUncertainty_5 : decode cX6_setUncertainty 5 = .ok (.aload_n 0, 1) := by decide +kernel
theorem dX6_setUncertainty_6 : decode cX6_setUncertainty 6 = .ok (.iload_n 2, 1) := by decide +kernel
theorem dX6_setUncertainty_7 : decode cX6_setUncertainty 7 = .ok (.iconst 0, 1) := by decide +kernel
theorem dX6_setUncertainty_8 : decode cX6_setUncertainty 8 = .ok (.sipush 500, 3) := by decide +kernel
theorem dX6_setUncertainty_11 : decode cX6_setUncertainty 11 = .ok (.invokevirtual 74, 3) := by decide +kernel
theorem dX6_setUncertainty_14 : decode cX6_setUncertainty 14 = .ok (.aload_n 0, 1) := by decide +kernel
theorem dX6_setUncertainty_15 : decode cX6_setUncertainty 15 = .ok (.iload_n 3, 1) := by decide +kernel
theorem dX6_setUncertainty_16 : decode cX6_setUncertainty 16 = .ok (.iconst 0, 1) := by decide +kernel
theorem dX6_setUncertainty_17 : decode cX6_setUncertainty 17 = .ok (.bipush 100, 2) := by decide +kernel
theorem dX6_setUncertainty_19 : decode cX6_setUncertainty 19 = .ok (.invokevirtual 74, 3) := by decide +kernel
theorem dX6_setUncertainty_22 : decode cX6_setUncertainty 22 = .ok (.aload_n 0, 1) := by decide +kernel
theorem dX6_setUncertainty_23 : decode cX6_setUncertainty 23 = .ok (.getfield 19, 3) := by decide +kernel
theorem dX6_setUncertainty_26 : decode cX6_setUncertainty 26 = .ok (.aload_n 0, 1) := by decide +kernel
theorem dX6_setUncertainty_27 : decode cX6_setUncertainty 27 = .ok (.getfield 10, 3) := by decide +kernel
theorem dX6_setUncertainty_30 : decode cX6_setUncertainty 30 = .ok (.invokevirtual 53, 3) := by decide +kernel
theorem dX6_setUncertainty_33 : decode cX6_setUncertainty 33 = .ok (.aload_n 0, 1) := by decide +kernel
theorem dX6_setUncertainty_34 : decode cX6_setUncertainty 34 = .ok (.getfield 10, 3) := by decide +kernel
theorem dX6_setUncertainty_37 : decode cX6_setUncertainty 37 = .ok (.getfield 104, 3) := by decide +kernel
theorem dX6_setUncertainty_40 : decode cX6_setUncertainty 40 = .ok (.iload_n 1, 1) := by decide +kernel
theorem dX6_setUncertainty_41 : decode cX6_setUncertainty 41 = .ok (.aaload, 1) := by decide +kernel
theorem dX6_setUncertainty_42 : decode cX6_setUncertainty 42 = .ok (.iload_n 2, 1) := by decide +kernel
theorem dX6_setUncertainty_43 : decode cX6_setUncertainty 43 = .ok (.iload_n 3, 1) := by decide +kernel
theorem dX6_setUncertainty_44 : decode cX6_setUncertainty 44 = .ok (.invokevirtual 117, 3) := by decide +kernel
theorem dX6_setUncertainty_47 : decode cX6_setUncertainty 47 = .ok (.aload_n 0, 1) := by decide +kernel
theorem dX6_setUncertainty_48 : decode cX6_setUncertainty 48 = .ok (.getfield 10, 3) := by decide +kernel
theorem dX6_setUncertainty_51 : decode cX6_setUncertainty 51 = .ok (.getfield 104, 3) := by decide +kernel
theorem dX6_setUncertainty_54 : decode cX6_setUncertainty 54 = .ok (.iload_n 1, 1) := by decide +kernel
theorem dX6_setUncertainty_55 : decode cX6_setUncertainty 55 = .ok (.aaload, 1) := by decide +kernel
theorem dX6_setUncertainty_56 : decode cX6_setUncertainty 56 = .ok (.aload_n 0, 1) := by decide +kernel
theorem dX6_setUncertainty_57 : decode cX6_setUncertainty 57 = .ok (.getfield 10, 3) := by decide +kernel
theorem dX6_setUncertainty_60 : decode cX6_setUncertainty 60 = .ok (.getfield 108, 3) := by decide +kernel
theorem dX6_setUncertainty_63 : decode cX6_setUncertainty 63 = .ok (.invokevirtual 120, 3) := by decide +kernel
theorem dX6_setUncertainty_66 : decode cX6_setUncertainty 66 = .ok (.ireturn, 1) := by decide +kernel
theorem dX6_snapshotRead_0 : decode cX6_snapshotRead 0 = .ok (.aload_n 0, 1) := by decide +kernel
theorem dX6_snapshotRead_1 : decode cX6_snapshotRead 1 = .ok (.iload_n 1, 1) := by decide +kernel
theorem dX6_snapshotRead_2 : decode cX6_snapshotRead 2 = .ok (.invokevirtual 64, 3) := by decide +kernel
theorem dX6_snapshotRead_5 : decode cX6_snapshotRead 5 = .ok (.aload_n 0, 1) := by decide +kernel
theorem dX6_snapshotRead_6 : decode cX6_snapshotRead 6 = .ok (.iload_n 2, 1) := by decide +kernel
theorem dX6_snapshotRead_7 : decode cX6_snapshotRead 7 = .ok (.invokevirtual 123, 3) := by decide +kernel
theorem dX6_snapshotRead_10 : decode cX6_snapshotRead 10 = .ok (.iload_n 2, 1) := by decide +kernel
theorem dX6_snapshotRead_11 : decode cX6_snapshotRead 11 = .ok (.aload_n 0, 1) := by decide +kernel
theorem dX6_snapshotRead_12 : decode cX6_snapshotRead 12 = .ok (.getfield 10, 3) := by decide +kernel
theorem dX6_snapshotRead_15 : decode cX6_snapshotRead 15 = .ok (.invokevirtual 126, 3) := by decide +kernel
theorem dX6_snapshotRead_18 : decode cX6_snapshotRead 18 = .ok (.if_icmp .le 13, 3) := by decide +kernel
theorem dX6_snapshotRead_21 : decode cX6_snapshotRead 21 = .ok (.new 46, 3) := by decide +kernel
theorem dX6_snapshotRead_24 : decode cX6_snapshotRead 24 = .ok (.dup, 1) := by decide +kernel
theorem dX6_snapshotRead_25 : decode cX6_snapshotRead 25 = .ok (.ldc 130, 2) := by decide +kernel
theorem dX6_snapshotRead_27 : decode cX6_snapshotRead 27 = .ok (.invokespecial 50, 3) := by decide +kernel
theorem dX6_snapshotRead_30 : decode cX6_snapshotRead 30 = .ok (.athrow, 1) := by decide +kernel
theorem dX6_snapshotRead_31 : decode cX6_snapshotRead 31 = .ok (.aload_n 0, 1) := by decide +kernel
theorem dX6_snapshotRead_32 : decode cX6_snapshotRead 32 = .ok (.getfield 19, 3) := by decide +kernel
theorem dX6_snapshotRead_35 : decode cX6_snapshotRead 35 = .ok (.aload_n 0, 1) := by decide +kernel
theorem dX6_snapshotRead_36 : decode cX6_snapshotRead 36 = .ok (.getfield 10, 3) := by decide +kernel
theorem dX6_snapshotRead_39 : decode cX6_snapshotRead 39 = .ok (.invokevirtual 53, 3) := by decide +kernel
theorem dX6_snapshotRead_42 : decode cX6_snapshotRead 42 = .ok (.aload_n 0, 1) := by decide +kernel
theorem dX6_snapshotRead_43 : decode cX6_snapshotRead 43 = .ok (.getfield 10, 3) := by decide +kernel
theorem dX6_snapshotRead_46 : decode cX6_snapshotRead 46 = .ok (.aload_n 0, 1) := by decide +kernel
theorem dX6_snapshotRead_47 : decode cX6_snapshotRead 47 = .ok (.getfield 10, 3) := by decide +kernel
theorem dX6_snapshotRead_50 : decode cX6_snapshotRead 50 = .ok (.getfield 132, 3) := by decide +kernel
theorem dX6_snapshotRead_53 : decode cX6_snapshotRead 53 = .ok (.iload_n 2, 1) := by decide +kernel
theorem dX6_snapshotRead_54 : decode cX6_snapshotRead 54 = .ok (.invokestatic 135, 3) := by decide +kernel
theorem dX6_snapshotRead_57 : decode cX6_snapshotRead 57 = .ok (.putfield 132, 3) := by decide +kernel
theorem dX6_snapshotRead_60 : decode cX6_snapshotRead 60 = .ok (.aload_n 0, 1) := by decide +kernel
theorem dX6_snapshotRead_61 : decode cX6_snapshotRead 61 = .ok (.getfield 10, 3) := by decide +kernel
theorem dX6_snapshotRead_64 : decode cX6_snapshotRead 64 = .ok (.getfield 140, 3) := by decide +kernel
theorem dX6_snapshotRead_67 : decode cX6_snapshotRead 67 = .ok (.iload_n 1, 1) := by decide +kernel
theorem dX6_snapshotRead_68 : decode cX6_snapshotRead 68 = .ok (.iload_n 2, 1) := by decide +kernel
theorem dX6_snapshotRead_69 : decode cX6_snapshotRead 69 = .ok (.invokevirtual 144, 3) := by decide +kernel
theorem dX6_snapshotRead_72 : decode cX6_snapshotRead 72 = .ok (.ireturn, 1) := by decide +kernel
theorem dX6_trueTime_0 : decode cX6_trueTime 0 = .ok (.aload_n 0, 1) := by decide +kernel
theorem dX6_trueTime_1 : decode cX6_trueTime 1 = .ok (.getfield 10, 3) := by decide +kernel
theorem dX6_trueTime_4 : decode cX6_trueTime 4 = .ok (.getfield 108, 3) := by decide +kernel
theorem dX6_trueTime_7 : decode cX6_trueTime 7 = .ok (.ireturn, 1) := by decide +kernel
theorem dX6_reading_0 : decode cX6_reading 0 = .ok (.aload_n 0, 1) := by decide +kernel
theorem dX6_reading_1 : decode cX6_reading 1 = .ok (.iload_n 1, 1) := by decide +kernel
theorem dX6_reading_2 : decode cX6_reading 2 = .ok (.invokevirtual 38, 3) := by decide +kernel
theorem dX6_reading_5 : decode cX6_reading 5 = .ok (.aload_n 0, 1) := by decide +kernel
theorem dX6_reading_6 : decode cX6_reading 6 = .ok (.getfield 10, 3) := by decide +kernel
theorem dX6_reading_9 : decode cX6_reading 9 = .ok (.getfield 108, 3) := by decide +kernel
theorem dX6_reading_12 : decode cX6_reading 12 = .ok (.aload_n 0, 1) := by decide +kernel
theorem dX6_reading_13 : decode cX6_reading 13 = .ok (.getfield 10, 3) := by decide +kernel
theorem dX6_reading_16 : decode cX6_reading 16 = .ok (.getfield 104, 3) := by decide +kernel
theorem dX6_reading_19 : decode cX6_reading 19 = .ok (.iload_n 1, 1) := by decide +kernel
theorem dX6_reading_20 : decode cX6_reading 20 = .ok (.aaload, 1) := by decide +kernel
theorem dX6_reading_21 : decode cX6_reading 21 = .ok (.aload_n 0, 1) := by decide +kernel
theorem dX6_reading_22 : decode cX6_reading 22 = .ok (.getfield 10, 3) := by decide +kernel
theorem dX6_reading_25 : decode cX6_reading 25 = .ok (.getfield 108, 3) := by decide +kernel
theorem dX6_reading_28 : decode cX6_reading 28 = .ok (.invokevirtual 210, 3) := by decide +kernel
theorem dX6_reading_31 : decode cX6_reading 31 = .ok (.iadd, 1) := by decide +kernel
theorem dX6_reading_32 : decode cX6_reading 32 = .ok (.ireturn, 1) := by decide +kernel
theorem dX6_earliest_0 : decode cX6_earliest 0 = .ok (.aload_n 0, 1) := by decide +kernel
theorem dX6_earliest_1 : decode cX6_earliest 1 = .ok (.iload_n 1, 1) := by decide +kernel
theorem dX6_earliest_2 : decode cX6_earliest 2 = .ok (.invokevirtual 38, 3) := by decide +kernel
theorem dX6_earliest_5 : decode cX6_earliest 5 = .ok (.aload_n 0, 1) := by decide +kernel
theorem dX6_earliest_6 : decode cX6_earliest 6 = .ok (.getfield 10, 3) := by decide +kernel
theorem dX6_earliest_9 : decode cX6_earliest 9 = .ok (.getfield 104, 3) := by decide +kernel
theorem dX6_earliest_12 : decode cX6_earliest 12 = .ok (.iload_n 1, 1) := by decide +kernel
theorem dX6_earliest_13 : decode cX6_earliest 13 = .ok (.aaload, 1) := by decide +kernel
theorem dX6_earliest_14 : decode cX6_earliest 14 = .ok (.aload_n 0, 1) := by decide +kernel
theorem dX6_earliest_15 : decode cX6_earliest 15 = .ok (.getfield 10, 3) := by decide +kernel
theorem dX6_earliest_18 : decode cX6_earliest 18 = .ok (.getfield 108, 3) := by decide +kernel
theorem dX6_earliest_21 : decode cX6_earliest 21 = .ok (.invokevirtual 213, 3) := by decide +kernel
theorem dX6_earliest_24 : decode cX6_earliest 24 = .ok (.ireturn, 1) := by decide +kernel
theorem dX6_latest_0 : decode cX6_latest 0 = .ok (.aload_n 0, 1) := by decide +kernel
theorem dX6_latest_1 : decode cX6_latest 1 = .ok (.iload_n 1, 1) := by decide +kernel
theorem dX6_latest_2 : decode cX6_latest 2 = .ok (.invokevirtual 38, 3) := by decide +kernel
theorem dX6_latest_5 : decode cX6_latest 5 = .ok (.aload_n 0, 1) := by decide +kernel
theorem dX6_latest_6 : decode cX6_latest 6 = .ok (.getfield 10, 3) := by decide +kernel
theorem dX6_latest_9 : decode cX6_latest 9 = .ok (.getfield 104, 3) := by decide +kernel
theorem dX6_latest_12 : decode cX6_latest 12 = .ok (.iload_n 1, 1) := by decide +kernel
theorem dX6_latest_13 : decode cX6_latest 13 = .ok (.aaload, 1) := by decide +kernel
theorem dX6_latest_14 : decode cX6_latest 14 = .ok (.aload_n 0, 1) := by decide +kernel
theorem dX6_latest_15 : decode cX6_latest 15 = .ok (.getfield 10, 3) := by decide +kernel
theorem dX6_latest_18 : decode cX6_latest 18 = .ok (.getfield 108, 3) := by decide +kernel
theorem dX6_latest_21 : decode cX6_latest 21 = .ok (.invokevirtual 216, 3) := by decide +kernel
theorem dX6_latest_24 : decode cX6_latest 24 = .ok (.ireturn, 1) := by decide +kernel
theorem dX6_isSound_0 : decode cX6_isSound 0 = .ok (.aload_n 0, 1) := by decide +kernel
theorem dX6_isSound_1 : decode cX6_isSound 1 = .ok (.iload_n 1, 1) := by decide +kernel
theorem dX6_isSound_2 : decode cX6_isSound 2 = .ok (.invokevirtual 38, 3) := by decide +kernel
theorem dX6_isSound_5 : decode cX6_isSound 5 = .ok (.aload_n 0, 1) := by decide +kernel
theorem dX6_isSound_6 : decode cX6_isSound 6 = .ok (.getfield 10, 3) := by decide +kernel
theorem dX6_isSound_9 : decode cX6_isSound 9 = .ok (.getfield 104, 3) := by decide +kernel
theorem dX6_isSound_12 : decode cX6_isSound 12 = .ok (.iload_n 1, 1) := by decide +kernel
theorem dX6_isSound_13 : decode cX6_isSound 13 = .ok (.aaload, 1) := by decide +kernel
theorem dX6_isSound_14 : decode cX6_isSound 14 = .ok (.aload_n 0, 1) := by decide +kernel
theorem dX6_isSound_15 : decode cX6_isSound 15 = .ok (.getfield 10, 3) := by decide +kernel
theorem dX6_isSound_18 : decode cX6_isSound 18 = .ok (.getfield 108, 3) := by decide +kernel
theorem dX6_isSound_21 : decode cX6_isSound 21 = .ok (.invokevirtual 219, 3) := by decide +kernel
theorem dX6_isSound_24 : decode cX6_isSound 24 = .ok (.ireturn, 1) := by decide +kernel
theorem dX6_transactions_0 : decode cX6_transactions 0 = .ok (.aload_n 0, 1) := by decide +kernel
theorem dX6_transactions_1 : decode cX6_transactions 1 = .ok (.getfield 10, 3) := by decide +kernel
theorem dX6_transactions_4 : decode cX6_transactions 4 = .ok (.getfield 185, 3) := by decide +kernel
theorem dX6_transactions_7 : decode cX6_transactions 7 = .ok (.getfield 225, 3) := by decide +kernel
theorem dX6_transactions_10 : decode cX6_transactions 10 = .ok (.ireturn, 1) := by decide +kernel
theorem dX6_state_0 : decode cX6_state 0 = .ok (.aload_n 0, 1) := by decide +kernel
theorem dX6_state_1 : decode cX6_state 1 = .ok (.iload_n 1, 1) := by decide +kernel
theorem dX6_state_2 : decode cX6_state 2 = .ok (.invokevirtual 61, 3) := by decide +kernel
theorem dX6_state_5 : decode cX6_state 5 = .ok (.aload_n 0, 1) := by decide +kernel
theorem dX6_state_6 : decode cX6_state 6 = .ok (.getfield 10, 3) := by decide +kernel
theorem dX6_state_9 : decode cX6_state 9 = .ok (.getfield 185, 3) := by decide +kernel
theorem dX6_state_12 : decode cX6_state 12 = .ok (.getfield 228, 3) := by decide +kernel
theorem dX6_state_15 : decode cX6_state 15 = .ok (.iload_n 1, 1) := by decide +kernel
theorem dX6_state_16 : decode cX6_state 16 = .ok (.iaload, 1) := by decide +kernel
theorem dX6_state_17 : decode cX6_state 17 = .ok (.ireturn, 1) := by decide +kernel
theorem dX6_timestamp_0 : decode cX6_timestamp 0 = .ok (.aload_n 0, 1) := by decide +kernel
theorem dX6_timestamp_1 : decode cX6_timestamp 1 = .ok (.iload_n 1, 1) := by decide +kernel
theorem dX6_timestamp_2 : decode cX6_timestamp 2 = .ok (.invokevirtual 61, 3) := by decide +kernel
theorem dX6_timestamp_5 : decode cX6_timestamp 5 = .ok (.aload_n 0, 1) := by decide +kernel
theorem dX6_timestamp_6 : decode cX6_timestamp 6 = .ok (.getfield 10, 3) := by decide +kernel
theorem dX6_timestamp_9 : decode cX6_timestamp 9 = .ok (.getfield 185, 3) := by decide +kernel
theorem dX6_timestamp_12 : decode cX6_timestamp 12 = .ok (.getfield 231, 3) := by decide +kernel
theorem dX6_timestamp_15 : decode cX6_timestamp 15 = .ok (.iload_n 1, 1) := by decide +kernel
theorem dX6_timestamp_16 : decode cX6_timestamp 16 = .ok (.iaload, 1) := by decide +kernel
theorem dX6_timestamp_17 : decode cX6_timestamp 17 = .ok (.ireturn, 1) := by decide +kernel
theorem dX6_requestTime_0 : decode cX6_requestTime 0 = .ok (.aload_n 0, 1) := by decide +kernel
theorem dX6_requestTime_1 : decode cX6_requestTime 1 = .ok (.iload_n 1, 1) := by decide +kernel
theorem dX6_requestTime_2 : decode cX6_requestTime 2 = .ok (.invokevirtual 61, 3) := by decide +kernel
theorem dX6_requestTime_5 : decode cX6_requestTime 5 = .ok (.aload_n 0, 1) := by decide +kernel
theorem dX6_requestTime_6 : decode cX6_requestTime 6 = .ok (.getfield 10, 3) := by decide +kernel
theorem dX6_requestTime_9 : decode cX6_requestTime 9 = .ok (.getfield 185, 3) := by decide +kernel
theorem dX6_requestTime_12 : decode cX6_requestTime 12 = .ok (.getfield 234, 3) := by decide +kernel
theorem dX6_requestTime_15 : decode cX6_requestTime 15 = .ok (.iload_n 1, 1) := by decide +kernel
theorem dX6_requestTime_16 : decode cX6_requestTime 16 = .ok (.iaload, 1) := by decide +kernel
theorem dX6_requestTime_17 : decode cX6_requestTime 17 = .ok (.ireturn, 1) := by decide +kernel
theorem dX6_commitTime_0 : decode cX6_commitTime 0 = .ok (.aload_n 0, 1) := by decide +kernel
theorem dX6_commitTime_1 : decode cX6_commitTime 1 = .ok (.iload_n 1, 1) := by decide +kernel
theorem dX6_commitTime_2 : decode cX6_commitTime 2 = .ok (.invokevirtual 61, 3) := by decide +kernel
theorem dX6_commitTime_5 : decode cX6_commitTime 5 = .ok (.aload_n 0, 1) := by decide +kernel
theorem dX6_commitTime_6 : decode cX6_commitTime 6 = .ok (.getfield 10, 3) := by decide +kernel
theorem dX6_commitTime_9 : decode cX6_commitTime 9 = .ok (.getfield 185, 3) := by decide +kernel
theorem dX6_commitTime_12 : decode cX6_commitTime 12 = .ok (.getfield 237, 3) := by decide +kernel
theorem dX6_commitTime_15 : decode cX6_commitTime 15 = .ok (.iload_n 1, 1) := by decide +kernel
theorem dX6_commitTime_16 : decode cX6_commitTime 16 = .ok (.iaload, 1) := by decide +kernel
theorem dX6_commitTime_17 : decode cX6_commitTime 17 = .ok (.ireturn, 1) := by decide +kernel
theorem dX6_bufferedValue_0 : decode cX6_bufferedValue 0 = .ok (.aload_n 0, 1) := by decide +kernel
theorem dX6_bufferedValue_1 : decode cX6_bufferedValue 1 = .ok (.iload_n 1, 1) := by decide +kernel
theorem dX6_bufferedValue_2 : decode cX6_bufferedValue 2 = .ok (.invokevirtual 61, 3) := by decide +kernel
theorem dX6_bufferedValue_5 : decode cX6_bufferedValue 5 = .ok (.aload_n 0, 1) := by decide +kernel
theorem dX6_bufferedValue_6 : decode cX6_bufferedValue 6 = .ok (.iload_n 2, 1) := by decide +kernel
theorem dX6_bufferedValue_7 : decode cX6_bufferedValue 7 = .ok (.invokevirtual 64, 3) := by decide +kernel
theorem dX6_bufferedValue_10 : decode cX6_bufferedValue 10 = .ok (.aload_n 0, 1) := by decide +kernel
theorem dX6_bufferedValue_11 : decode cX6_bufferedValue 11 = .ok (.getfield 10, 3) := by decide +kernel
theorem dX6_bufferedValue_14 : decode cX6_bufferedValue 14 = .ok (.getfield 185, 3) := by decide +kernel
theorem dX6_bufferedValue_17 : decode cX6_bufferedValue 17 = .ok (.iload_n 1, 1) := by decide +kernel
theorem dX6_bufferedValue_18 : decode cX6_bufferedValue 18 = .ok (.iload_n 2, 1) := by decide +kernel
theorem dX6_bufferedValue_19 : decode cX6_bufferedValue 19 = .ok (.invokevirtual 240, 3) := by decide +kernel
theorem dX6_bufferedValue_22 : decode cX6_bufferedValue 22 = .ok (.ireturn, 1) := by decide +kernel
theorem dX6_recordedTimestamp_0 : decode cX6_recordedTimestamp 0 = .ok (.aload_n 0, 1) := by decide +kernel
theorem dX6_recordedTimestamp_1 : decode cX6_recordedTimestamp 1 = .ok (.iload_n 1, 1) := by decide +kernel
theorem dX6_recordedTimestamp_2 : decode cX6_recordedTimestamp 2 = .ok (.invokevirtual 61, 3) := by decide +kernel
theorem dX6_recordedTimestamp_5 : decode cX6_recordedTimestamp 5 = .ok (.aload_n 0, 1) := by decide +kernel
theorem dX6_recordedTimestamp_6 : decode cX6_recordedTimestamp 6 = .ok (.iload_n 2, 1) := by decide +kernel
theorem dX6_recordedTimestamp_7 : decode cX6_recordedTimestamp 7 = .ok (.invokevirtual 64, 3) := by decide +kernel
theorem dX6_recordedTimestamp_10 : decode cX6_recordedTimestamp 10 = .ok (.aload_n 0, 1) := by decide +kernel
theorem dX6_recordedTimestamp_11 : decode cX6_recordedTimestamp 11 = .ok (.getfield 10, 3) := by decide +kernel
theorem dX6_recordedTimestamp_14 : decode cX6_recordedTimestamp 14 = .ok (.getfield 185, 3) := by decide +kernel
theorem dX6_recordedTimestamp_17 : decode cX6_recordedTimestamp 17 = .ok (.iload_n 1, 1) := by decide +kernel
theorem dX6_recordedTimestamp_18 : decode cX6_recordedTimestamp 18 = .ok (.iload_n 2, 1) := by decide +kernel
theorem dX6_recordedTimestamp_19 : decode cX6_recordedTimestamp 19 = .ok (.invokevirtual 243, 3) := by decide +kernel
theorem dX6_recordedTimestamp_22 : decode cX6_recordedTimestamp 22 = .ok (.istore_n 3, 1) := by decide +kernel
theorem dX6_recordedTimestamp_23 : decode cX6_recordedTimestamp 23 = .ok (.iload_n 3, 1) := by decide +kernel
theorem dX6_recordedTimestamp_24 : decode cX6_recordedTimestamp 24 = .ok (.iconst (-1), 1) := by decide +kernel
theorem dX6_recordedTimestamp_25 : decode cX6_recordedTimestamp 25 = .ok (.if_icmp .ne 7, 3) := by decide +kernel
theorem dX6_recordedTimestamp_28 : decode cX6_recordedTimestamp 28 = .ok (.iconst (-1), 1) := by decide +kernel
theorem dX6_recordedTimestamp_29 : decode cX6_recordedTimestamp 29 = .ok (.goto 15, 3) := by decide +kernel
theorem dX6_recordedTimestamp_32 : decode cX6_recordedTimestamp 32 = .ok (.aload_n 0, 1) := by decide +kernel
theorem dX6_recordedTimestamp_33 : decode cX6_recordedTimestamp 33 = .ok (.getfield 10, 3) := by decide +kernel
theorem dX6_recordedTimestamp_36 : decode cX6_recordedTimestamp 36 = .ok (.getfield 140, 3) := by decide +kernel
theorem dX6_recordedTimestamp_39 : decode cX6_recordedTimestamp 39 = .ok (.iload_n 2, 1) := by decide +kernel
theorem dX6_recordedTimestamp_40 : decode cX6_recordedTimestamp 40 = .ok (.iload_n 3, 1) := by decide +kernel
theorem dX6_recordedTimestamp_41 : decode cX6_recordedTimestamp 41 = .ok (.invokevirtual 246, 3) := by decide +kernel
theorem dX6_recordedTimestamp_44 : decode cX6_recordedTimestamp 44 = .ok (.ireturn, 1) := by decide +kernel
theorem dX6_ifCommitted_0 : decode cX6_ifCommitted 0 = .ok (.aload_n 0, 1) := by decide +kernel
theorem dX6_ifCommitted_1 : decode cX6_ifCommitted 1 = .ok (.iload_n 1, 1) := by decide +kernel
theorem dX6_ifCommitted_2 : decode cX6_ifCommitted 2 = .ok (.invokevirtual 61, 3) := by decide +kernel
theorem dX6_ifCommitted_5 : decode cX6_ifCommitted 5 = .ok (.aload_n 0, 1) := by decide +kernel
theorem dX6_ifCommitted_6 : decode cX6_ifCommitted 6 = .ok (.getfield 10, 3) := by decide +kernel
theorem dX6_ifCommitted_9 : decode cX6_ifCommitted 9 = .ok (.getfield 185, 3) := by decide +kernel
theorem dX6_ifCommitted_12 : decode cX6_ifCommitted 12 = .ok (.iload_n 1, 1) := by decide +kernel
theorem dX6_ifCommitted_13 : decode cX6_ifCommitted 13 = .ok (.invokevirtual 189, 3) := by decide +kernel
theorem dX6_ifCommitted_16 : decode cX6_ifCommitted 16 = .ok (.ifCond .eq 14, 3) := by decide +kernel
theorem dX6_ifCommitted_19 : decode cX6_ifCommitted 19 = .ok (.aload_n 0, 1) := by decide +kernel
theorem dX6_ifCommitted_20 : decode cX6_ifCommitted 20 = .ok (.getfield 10, 3) := by decide +kernel
theorem dX6_ifCommitted_23 : decode cX6_ifCommitted 23 = .ok (.iload_n 1, 1) := by decide +kernel
theorem dX6_ifCommitted_24 : decode cX6_ifCommitted 24 = .ok (.invokevirtual 82, 3) := by decide +kernel
theorem dX6_ifCommitted_27 : decode cX6_ifCommitted 27 = .ok (.goto 4, 3) := by decide +kernel
theorem dX6_ifCommitted_30 : decode cX6_ifCommitted 30 = .ok (.iconst (-1), 1) := by decide +kernel
theorem dX6_ifCommitted_31 : decode cX6_ifCommitted 31 = .ok (.ireturn, 1) := by decide +kernel
theorem dX6_ticksToCommit_0 : decode cX6_ticksToCommit 0 = .ok (.aload_n 0, 1) := by decide +kernel
theorem dX6_ticksToCommit_1 : decode cX6_ticksToCommit 1 = .ok (.iload_n 1, 1) := by decide +kernel
theorem dX6_ticksToCommit_2 : decode cX6_ticksToCommit 2 = .ok (.invokevirtual 61, 3) := by decide +kernel
theorem dX6_ticksToCommit_5 : decode cX6_ticksToCommit 5 = .ok (.aload_n 0, 1) := by decide +kernel
theorem dX6_ticksToCommit_6 : decode cX6_ticksToCommit 6 = .ok (.getfield 10, 3) := by decide +kernel
theorem dX6_ticksToCommit_9 : decode cX6_ticksToCommit 9 = .ok (.getfield 185, 3) := by decide +kernel
theorem dX6_ticksToCommit_12 : decode cX6_ticksToCommit 12 = .ok (.getfield 228, 3) := by decide +kernel
theorem dX6_ticksToCommit_15 : decode cX6_ticksToCommit 15 = .ok (.iload_n 1, 1) := by decide +kernel
theorem dX6_ticksToCommit_16 : decode cX6_ticksToCommit 16 = .ok (.iaload, 1) := by decide +kernel
theorem dX6_ticksToCommit_17 : decode cX6_ticksToCommit 17 = .ok (.iconst 2, 1) := by decide +kernel
theorem dX6_ticksToCommit_18 : decode cX6_ticksToCommit 18 = .ok (.if_icmp .ne 5, 3) := by decide +kernel
theorem dX6_ticksToCommit_21 : decode cX6_ticksToCommit 21 = .ok (.iconst 0, 1) := by decide +kernel
theorem dX6_ticksToCommit_22 : decode cX6_ticksToCommit 22 = .ok (.ireturn, 1) := by decide +kernel
theorem dX6_ticksToCommit_23 : decode cX6_ticksToCommit 23 = .ok (.aload_n 0, 1) := by decide +kernel
theorem dX6_ticksToCommit_24 : decode cX6_ticksToCommit 24 = .ok (.getfield 10, 3) := by decide +kernel
theorem dX6_ticksToCommit_27 : decode cX6_ticksToCommit 27 = .ok (.getfield 185, 3) := by decide +kernel
theorem dX6_ticksToCommit_30 : decode cX6_ticksToCommit 30 = .ok (.getfield 228, 3) := by decide +kernel
theorem dX6_ticksToCommit_33 : decode cX6_ticksToCommit 33 = .ok (.iload_n 1, 1) := by decide +kernel
theorem dX6_ticksToCommit_34 : decode cX6_ticksToCommit 34 = .ok (.iaload, 1) := by decide +kernel
theorem dX6_ticksToCommit_35 : decode cX6_ticksToCommit 35 = .ok (.iconst 1, 1) := by decide +kernel
theorem dX6_ticksToCommit_36 : decode cX6_ticksToCommit 36 = .ok (.if_icmp .eq 5, 3) := by decide +kernel
theorem dX6_ticksToCommit_39 : decode cX6_ticksToCommit 39 = .ok (.iconst (-1), 1) := by decide +kernel
theorem dX6_ticksToCommit_40 : decode cX6_ticksToCommit 40 = .ok (.ireturn, 1) := by decide +kernel
theorem dX6_ticksToCommit_41 : decode cX6_ticksToCommit 41 = .ok (.aload_n 0, 1) := by decide +kernel
theorem dX6_ticksToCommit_42 : decode cX6_ticksToCommit 42 = .ok (.getfield 10, 3) := by decide +kernel
theorem dX6_ticksToCommit_45 : decode cX6_ticksToCommit 45 = .ok (.iload_n 1, 1) := by decide +kernel
theorem dX6_ticksToCommit_46 : decode cX6_ticksToCommit 46 = .ok (.sipush 10000, 3) := by decide +kernel
theorem dX6_ticksToCommit_49 : decode cX6_ticksToCommit 49 = .ok (.invokevirtual 249, 3) := by decide +kernel
theorem dX6_ticksToCommit_52 : decode cX6_ticksToCommit 52 = .ok (.istore_n 2, 1) := by decide +kernel
theorem dX6_ticksToCommit_53 : decode cX6_ticksToCommit 53 = .ok (.iload_n 2, 1) := by decide +kernel
theorem dX6_ticksToCommit_54 : decode cX6_ticksToCommit 54 = .ok (.sipush 10000, 3) := by decide +kernel
theorem dX6_ticksToCommit_57 : decode cX6_ticksToCommit 57 = .ok (.if_icmp .le 7, 3) := by decide +kernel
theorem dX6_ticksToCommit_60 : decode cX6_ticksToCommit 60 = .ok (.iconst (-1), 1) := by decide +kernel
theorem dX6_ticksToCommit_61 : decode cX6_ticksToCommit 61 = .ok (.goto 4, 3) := by decide +kernel
theorem dX6_ticksToCommit_64 : decode cX6_ticksToCommit 64 = .ok (.iload_n 2, 1) := by decide +kernel
theorem dX6_ticksToCommit_65 : decode cX6_ticksToCommit 65 = .ok (.ireturn, 1) := by decide +kernel
theorem dX6_versions_0 : decode cX6_versions 0 = .ok (.aload_n 0, 1) := by decide +kernel
theorem dX6_versions_1 : decode cX6_versions 1 = .ok (.iload_n 1, 1) := by decide +kernel
theorem dX6_versions_2 : decode cX6_versions 2 = .ok (.invokevirtual 64, 3) := by decide +kernel
theorem dX6_versions_5 : decode cX6_versions 5 = .ok (.aload_n 0, 1) := by decide +kernel
theorem dX6_versions_6 : decode cX6_versions 6 = .ok (.getfield 10, 3) := by decide +kernel
theorem dX6_versions_9 : decode cX6_versions 9 = .ok (.getfield 140, 3) := by decide +kernel
theorem dX6_versions_12 : decode cX6_versions 12 = .ok (.getfield 252, 3) := by decide +kernel
theorem dX6_versions_15 : decode cX6_versions 15 = .ok (.iload_n 1, 1) := by decide +kernel
theorem dX6_versions_16 : decode cX6_versions 16 = .ok (.iaload, 1) := by decide +kernel
theorem dX6_versions_17 : decode cX6_versions 17 = .ok (.ireturn, 1) := by decide +kernel
theorem dX6_versionTimestamp_0 : decode cX6_versionTimestamp 0 = .ok (.aload_n 0, 1) := by decide +kernel
theorem dX6_versionTimestamp_1 : decode cX6_versionTimestamp 1 = .ok (.iload_n 1, 1) := by decide +kernel
theorem dX6_versionTimestamp_2 : decode cX6_versionTimestamp 2 = .ok (.invokevirtual 64, 3) := by decide +kernel
theorem dX6_versionTimestamp_5 : decode cX6_versionTimestamp 5 = .ok (.iload_n 2, 1) := by decide +kernel
theorem dX6_versionTimestamp_6 : decode cX6_versionTimestamp 6 = .ok (.ifCond .lt 19, 3) := by decide +kernel
theorem dX6_versionTimestamp_9 : decode cX6_versionTimestamp 9 = .ok (.iload_n 2, 1) := by decide +kernel
theorem dX6_versionTimestamp_10 : decode cX6_versionTimestamp 10 = .ok (.aload_n 0, 1) := by decide +kernel
theorem dX6_versionTimestamp_11 : decode cX6_versionTimestamp 11 = .ok (.getfield 10, 3) := by decide +kernel
theorem dX6_versionTimestamp_14 : decode cX6_versionTimestamp 14 = .ok (.getfield 140, 3) := by decide +kernel
theorem dX6_versionTimestamp_17 : decode cX6_versionTimestamp 17 = .ok (.getfield 252, 3) := by decide +kernel
theorem dX6_versionTimestamp_20 : decode cX6_versionTimestamp 20 = .ok (.iload_n 1, 1) := by decide +kernel
theorem dX6_versionTimestamp_21 : decode cX6_versionTimestamp 21 = .ok (.iaload, 1) := by decide +kernel
theorem dX6_versionTimestamp_22 : decode cX6_versionTimestamp 22 = .ok (.if_icmp .lt 14, 3) := by decide +kernel
theorem dX6_versionTimestamp_25 : decode cX6_versionTimestamp 25 = .ok (.new 254, 3) := by decide +kernel
theorem dX6_versionTimestamp_28 : decode cX6_versionTimestamp 28 = .ok (.dup, 1) := by decide +kernel
theorem dX6_versionTimestamp_29 : decode cX6_versionTimestamp 29 = .ok (.ldc_w 256, 3) := by decide +kernel
theorem dX6_versionTimestamp_32 : decode cX6_versionTimestamp 32 = .ok (.invokespecial 258, 3) := by decide +kernel
theorem dX6_versionTimestamp_35 : decode cX6_versionTimestamp 35 = .ok (.athrow, 1) := by decide +kernel
theorem dX6_versionTimestamp_36 : decode cX6_versionTimestamp 36 = .ok (.aload_n 0, 1) := by decide +kernel
theorem dX6_versionTimestamp_37 : decode cX6_versionTimestamp 37 = .ok (.getfield 10, 3) := by decide +kernel
theorem dX6_versionTimestamp_40 : decode cX6_versionTimestamp 40 = .ok (.getfield 140, 3) := by decide +kernel
theorem dX6_versionTimestamp_43 : decode cX6_versionTimestamp 43 = .ok (.iload_n 1, 1) := by decide +kernel
theorem dX6_versionTimestamp_44 : decode cX6_versionTimestamp 44 = .ok (.iload_n 2, 1) := by decide +kernel
theorem dX6_versionTimestamp_45 : decode cX6_versionTimestamp 45 = .ok (.invokevirtual 246, 3) := by decide +kernel
theorem dX6_versionTimestamp_48 : decode cX6_versionTimestamp 48 = .ok (.ireturn, 1) := by decide +kernel
theorem dX6_valueAt_0 : decode cX6_valueAt 0 = .ok (.aload_n 0, 1) := by decide +kernel
theorem dX6_valueAt_1 : decode cX6_valueAt 1 = .ok (.iload_n 1, 1) := by decide +kernel
theorem dX6_valueAt_2 : decode cX6_valueAt 2 = .ok (.invokevirtual 64, 3) := by decide +kernel
theorem dX6_valueAt_5 : decode cX6_valueAt 5 = .ok (.aload_n 0, 1) := by decide +kernel
theorem dX6_valueAt_6 : decode cX6_valueAt 6 = .ok (.iload_n 2, 1) := by decide +kernel
theorem dX6_valueAt_7 : decode cX6_valueAt 7 = .ok (.invokevirtual 123, 3) := by decide +kernel
theorem dX6_valueAt_10 : decode cX6_valueAt 10 = .ok (.aload_n 0, 1) := by decide +kernel
theorem dX6_valueAt_11 : decode cX6_valueAt 11 = .ok (.getfield 10, 3) := by decide +kernel
theorem dX6_valueAt_14 : decode cX6_valueAt 14 = .ok (.getfield 140, 3) := by decide +kernel
theorem dX6_valueAt_17 : decode cX6_valueAt 17 = .ok (.iload_n 1, 1) := by decide +kernel
theorem dX6_valueAt_18 : decode cX6_valueAt 18 = .ok (.iload_n 2, 1) := by decide +kernel
theorem dX6_valueAt_19 : decode cX6_valueAt 19 = .ok (.invokevirtual 144, 3) := by decide +kernel
theorem dX6_valueAt_22 : decode cX6_valueAt 22 = .ok (.ireturn, 1) := by decide +kernel
theorem dX6_replayedValueAt_0 : decode cX6_replayedValueAt 0 = .ok (.aload_n 0, 1) := by decide +kernel
theorem dX6_replayedValueAt_1 : decode cX6_replayedValueAt 1 = .ok (.iload_n 1, 1) := by decide +kernel
theorem dX6_replayedValueAt_2 : decode cX6_replayedValueAt 2 = .ok (.invokevirtual 64, 3) := by decide +kernel
theorem dX6_replayedValueAt_5 : decode cX6_replayedValueAt 5 = .ok (.aload_n 0, 1) := by decide +kernel
theorem dX6_replayedValueAt_6 : decode cX6_replayedValueAt 6 = .ok (.iload_n 2, 1) := by decide +kernel
theorem dX6_replayedValueAt_7 : decode cX6_replayedValueAt 7 = .ok (.invokevirtual 123, 3) := by decide +kernel
theorem dX6_replayedValueAt_10 : decode cX6_replayedValueAt 10 = .ok (.aload_n 0, 1) := by decide +kernel
theorem dX6_replayedValueAt_11 : decode cX6_replayedValueAt 11 = .ok (.getfield 10, 3) := by decide +kernel
theorem dX6_replayedValueAt_14 : decode cX6_replayedValueAt 14 = .ok (.getfield 185, 3) := by decide +kernel
theorem dX6_replayedValueAt_17 : decode cX6_replayedValueAt 17 = .ok (.iload_n 1, 1) := by decide +kernel
theorem dX6_replayedValueAt_18 : decode cX6_replayedValueAt 18 = .ok (.iload_n 2, 1) := by decide +kernel
theorem dX6_replayedValueAt_19 : decode cX6_replayedValueAt 19 = .ok (.invokevirtual 259, 3) := by decide +kernel
theorem dX6_replayedValueAt_22 : decode cX6_replayedValueAt 22 = .ok (.ireturn, 1) := by decide +kernel
theorem dX6_waitingWriter_0 : decode cX6_waitingWriter 0 = .ok (.aload_n 0, 1) := by decide +kernel
theorem dX6_waitingWriter_1 : decode cX6_waitingWriter 1 = .ok (.iload_n 1, 1) := by decide +kernel
theorem dX6_waitingWriter_2 : decode cX6_waitingWriter 2 = .ok (.invokevirtual 64, 3) := by decide +kernel
theorem dX6_waitingWriter_5 : decode cX6_waitingWriter 5 = .ok (.aload_n 0, 1) := by decide +kernel
theorem dX6_waitingWriter_6 : decode cX6_waitingWriter 6 = .ok (.getfield 10, 3) := by decide +kernel
theorem dX6_waitingWriter_9 : decode cX6_waitingWriter 9 = .ok (.getfield 185, 3) := by decide +kernel
theorem dX6_waitingWriter_12 : decode cX6_waitingWriter 12 = .ok (.iload_n 1, 1) := by decide +kernel
theorem dX6_waitingWriter_13 : decode cX6_waitingWriter 13 = .ok (.invokevirtual 262, 3) := by decide +kernel
theorem dX6_waitingWriter_16 : decode cX6_waitingWriter 16 = .ok (.ireturn, 1) := by decide +kernel
theorem dX6_readerMark_0 : decode cX6_readerMark 0 = .ok (.aload_n 0, 1) := by decide +kernel
theorem dX6_readerMark_1 : decode cX6_readerMark 1 = .ok (.iload_n 1, 1) := by decide +kernel
theorem dX6_readerMark_2 : decode cX6_readerMark 2 = .ok (.invokevirtual 64, 3) := by decide +kernel
theorem dX6_readerMark_5 : decode cX6_readerMark 5 = .ok (.aload_n 0, 1) := by decide +kernel
theorem dX6_readerMark_6 : decode cX6_readerMark 6 = .ok (.getfield 10, 3) := by decide +kernel
theorem dX6_readerMark_9 : decode cX6_readerMark 9 = .ok (.getfield 185, 3) := by decide +kernel
theorem dX6_readerMark_12 : decode cX6_readerMark 12 = .ok (.iload_n 1, 1) := by decide +kernel
theorem dX6_readerMark_13 : decode cX6_readerMark 13 = .ok (.invokevirtual 265, 3) := by decide +kernel
theorem dX6_readerMark_16 : decode cX6_readerMark 16 = .ok (.ireturn, 1) := by decide +kernel
theorem dX6_safeTime_0 : decode cX6_safeTime 0 = .ok (.aload_n 0, 1) := by decide +kernel
theorem dX6_safeTime_1 : decode cX6_safeTime 1 = .ok (.getfield 10, 3) := by decide +kernel
theorem dX6_safeTime_4 : decode cX6_safeTime 4 = .ok (.invokevirtual 126, 3) := by decide +kernel
theorem dX6_safeTime_7 : decode cX6_safeTime 7 = .ok (.ireturn, 1) := by decide +kernel
theorem dX6_readFloor_0 : decode cX6_readFloor 0 = .ok (.aload_n 0, 1) := by decide +kernel
theorem dX6_readFloor_1 : decode cX6_readFloor 1 = .ok (.getfield 10, 3) := by decide +kernel
theorem dX6_readFloor_4 : decode cX6_readFloor 4 = .ok (.getfield 132, 3) := by decide +kernel
theorem dX6_readFloor_7 : decode cX6_readFloor 7 = .ok (.ireturn, 1) := by decide +kernel
theorem dX6_ticksUntilSafe_0 : decode cX6_ticksUntilSafe 0 = .ok (.aload_n 0, 1) := by decide +kernel
theorem dX6_ticksUntilSafe_1 : decode cX6_ticksUntilSafe 1 = .ok (.iload_n 1, 1) := by decide +kernel
theorem dX6_ticksUntilSafe_2 : decode cX6_ticksUntilSafe 2 = .ok (.invokevirtual 123, 3) := by decide +kernel
theorem dX6_ticksUntilSafe_5 : decode cX6_ticksUntilSafe 5 = .ok (.aload_n 0, 1) := by decide +kernel
theorem dX6_ticksUntilSafe_6 : decode cX6_ticksUntilSafe 6 = .ok (.getfield 10, 3) := by decide +kernel
theorem dX6_ticksUntilSafe_9 : decode cX6_ticksUntilSafe 9 = .ok (.iload_n 1, 1) := by decide +kernel
theorem dX6_ticksUntilSafe_10 : decode cX6_ticksUntilSafe 10 = .ok (.sipush 10000, 3) := by decide +kernel
theorem dX6_ticksUntilSafe_13 : decode cX6_ticksUntilSafe 13 = .ok (.invokevirtual 268, 3) := by decide +kernel
theorem dX6_ticksUntilSafe_16 : decode cX6_ticksUntilSafe 16 = .ok (.istore_n 2, 1) := by decide +kernel
theorem dX6_ticksUntilSafe_17 : decode cX6_ticksUntilSafe 17 = .ok (.iload_n 2, 1) := by decide +kernel
theorem dX6_ticksUntilSafe_18 : decode cX6_ticksUntilSafe 18 = .ok (.sipush 10000, 3) := by decide +kernel
theorem dX6_ticksUntilSafe_21 : decode cX6_ticksUntilSafe 21 = .ok (.if_icmp .le 7, 3) := by decide +kernel
theorem dX6_ticksUntilSafe_24 : decode cX6_ticksUntilSafe 24 = .ok (.iconst (-1), 1) := by decide +kernel
theorem dX6_ticksUntilSafe_25 : decode cX6_ticksUntilSafe 25 = .ok (.goto 4, 3) := by decide +kernel
theorem dX6_ticksUntilSafe_28 : decode cX6_ticksUntilSafe 28 = .ok (.iload_n 2, 1) := by decide +kernel
theorem dX6_ticksUntilSafe_29 : decode cX6_ticksUntilSafe 29 = .ok (.ireturn, 1) := by decide +kernel
theorem dX6_countInState_0 : decode cX6_countInState 0 = .ok (.aload_n 0, 1) := by decide +kernel
theorem dX6_countInState_1 : decode cX6_countInState 1 = .ok (.iload_n 1, 1) := by decide +kernel
theorem dX6_countInState_2 : decode cX6_countInState 2 = .ok (.iconst 0, 1) := by decide +kernel
theorem dX6_countInState_3 : decode cX6_countInState 3 = .ok (.iconst 3, 1) := by decide +kernel
theorem dX6_countInState_4 : decode cX6_countInState 4 = .ok (.invokevirtual 74, 3) := by decide +kernel
theorem dX6_countInState_7 : decode cX6_countInState 7 = .ok (.aload_n 0, 1) := by decide +kernel
theorem dX6_countInState_8 : decode cX6_countInState 8 = .ok (.getfield 10, 3) := by decide +kernel
theorem dX6_countInState_11 : decode cX6_countInState 11 = .ok (.getfield 185, 3) := by decide +kernel
theorem dX6_countInState_14 : decode cX6_countInState 14 = .ok (.iload_n 1, 1) := by decide +kernel
theorem dX6_countInState_15 : decode cX6_countInState 15 = .ok (.invokevirtual 271, 3) := by decide +kernel
theorem dX6_countInState_18 : decode cX6_countInState 18 = .ok (.ireturn, 1) := by decide +kernel
theorem dX6_totalWait_0 : decode cX6_totalWait 0 = .ok (.aload_n 0, 1) := by decide +kernel
theorem dX6_totalWait_1 : decode cX6_totalWait 1 = .ok (.getfield 10, 3) := by decide +kernel
theorem dX6_totalWait_4 : decode cX6_totalWait 4 = .ok (.getfield 185, 3) := by decide +kernel
theorem dX6_totalWait_7 : decode cX6_totalWait 7 = .ok (.invokevirtual 274, 3) := by decide +kernel
theorem dX6_totalWait_10 : decode cX6_totalWait 10 = .ok (.ireturn, 1) := by decide +kernel
theorem dX6_unsoundUses_0 : decode cX6_unsoundUses 0 = .ok (.aload_n 0, 1) := by decide +kernel
theorem dX6_unsoundUses_1 : decode cX6_unsoundUses 1 = .ok (.getfield 10, 3) := by decide +kernel
theorem dX6_unsoundUses_4 : decode cX6_unsoundUses 4 = .ok (.getfield 277, 3) := by decide +kernel
theorem dX6_unsoundUses_7 : decode cX6_unsoundUses 7 = .ok (.ireturn, 1) := by decide +kernel
theorem dX6_inversions_0 : decode cX6_inversions 0 = .ok (.aload_n 0, 1) := by decide +kernel
theorem dX6_inversions_1 : decode cX6_inversions 1 = .ok (.getfield 10, 3) := by decide +kernel
theorem dX6_inversions_4 : decode cX6_inversions 4 = .ok (.getfield 185, 3) := by decide +kernel
theorem dX6_inversions_7 : decode cX6_inversions 7 = .ok (.invokevirtual 280, 3) := by decide +kernel
theorem dX6_inversions_10 : decode cX6_inversions 10 = .ok (.ireturn, 1) := by decide +kernel
theorem dX6_savedStates_0 : decode cX6_savedStates 0 = .ok (.aload_n 0, 1) := by decide +kernel
theorem dX6_savedStates_1 : decode cX6_savedStates 1 = .ok (.getfield 19, 3) := by decide +kernel
theorem dX6_savedStates_4 : decode cX6_savedStates 4 = .ok (.getfield 194, 3) := by decide +kernel
theorem dX6_savedStates_7 : decode cX6_savedStates 7 = .ok (.ireturn, 1) := by decide +kernel
theorem dX6_requireServer_0 : decode cX6_requireServer 0 = .ok (.iload_n 1, 1) := by decide +kernel
theorem dX6_requireServer_1 : decode cX6_requireServer 1 = .ok (.ifCond .lt 8, 3) := by decide +kernel
theorem dX6_requireServer_4 : decode cX6_requireServer 4 = .ok (.iload_n 1, 1) := by decide +kernel
theorem dX6_requireServer_5 : decode cX6_requireServer 5 = .ok (.iconst 3, 1) := by decide +kernel
theorem dX6_requireServer_6 : decode cX6_requireServer 6 = .ok (.if_icmp .lt 14, 3) := by decide +kernel
theorem dX6_requireServer_9 : decode cX6_requireServer 9 = .ok (.new 254, 3) := by decide +kernel
theorem dX6_requireServer_12 : decode cX6_requireServer 12 = .ok (.dup, 1) := by decide +kernel
theorem dX6_requireServer_13 : decode cX6_requireServer 13 = .ok (.ldc_w 283, 3) := by decide +kernel
theorem dX6_requireServer_16 : decode cX6_requireServer 16 = .ok (.invokespecial 258, 3) := by decide +kernel
theorem dX6_requireServer_19 : decode cX6_requireServer 19 = .ok (.athrow, 1) := by decide +kernel
theorem dX6_requireServer_20 : decode cX6_requireServer 20 = .ok (.return_, 1) := by decide +kernel
theorem dX6_requireTransaction_0 : decode cX6_requireTransaction 0 = .ok (.iload_n 1, 1) := by decide +kernel
theorem dX6_requireTransaction_1 : decode cX6_requireTransaction 1 = .ok (.ifCond .lt 17, 3) := by decide +kernel
theorem dX6_requireTransaction_4 : decode cX6_requireTransaction 4 = .ok (.iload_n 1, 1) := by decide +kernel
theorem dX6_requireTransaction_5 : decode cX6_requireTransaction 5 = .ok (.aload_n 0, 1) := by decide +kernel
theorem dX6_requireTransaction_6 : decode cX6_requireTransaction 6 = .ok (.getfield 10, 3) := by decide +kernel
theorem dX6_requireTransaction_9 : decode cX6_requireTransaction 9 = .ok (.getfield 185, 3) := by decide +kernel
theorem dX6_requireTransaction_12 : decode cX6_requireTransaction 12 = .ok (.getfield 225, 3) := by decide +kernel
theorem dX6_requireTransaction_15 : decode cX6_requireTransaction 15 = .ok (.if_icmp .lt 14, 3) := by decide +kernel
theorem dX6_requireTransaction_18 : decode cX6_requireTransaction 18 = .ok (.new 254, 3) := by decide +kernel
theorem dX6_requireTransaction_21 : decode cX6_requireTransaction 21 = .ok (.dup, 1) := by decide +kernel
theorem dX6_requireTransaction_22 : decode cX6_requireTransaction 22 = .ok (.ldc_w 285, 3) := by decide +kernel
theorem dX6_requireTransaction_25 : decode cX6_requireTransaction 25 = .ok (.invokespecial 258, 3) := by decide +kernel
theorem dX6_requireTransaction_28 : decode cX6_requireTransaction 28 = .ok (.athrow, 1) := by decide +kernel
theorem dX6_requireTransaction_29 : decode cX6_requireTransaction 29 = .ok (.return_, 1) := by decide +kernel
theorem dX6_requireKey_0 : decode cX6_requireKey 0 = .ok (.iload_n 1, 1) := by decide +kernel
theorem dX6_requireKey_1 : decode cX6_requireKey 1 = .ok (.ifCond .lt 9, 3) := by decide +kernel
theorem dX6_requireKey_4 : decode cX6_requireKey 4 = .ok (.iload_n 1, 1) := by decide +kernel
theorem dX6_requireKey_5 : decode cX6_requireKey 5 = .ok (.bipush 8, 2) := by decide +kernel
theorem dX6_requireKey_7 : decode cX6_requireKey 7 = .ok (.if_icmp .lt 14, 3) := by decide +kernel
theorem dX6_requireKey_10 : decode cX6_requireKey 10 = .ok (.new 254, 3) := by decide +kernel
theorem dX6_requireKey_13 : decode cX6_requireKey 13 = .ok (.dup, 1) := by decide +kernel
theorem dX6_requireKey_14 : decode cX6_requireKey 14 = .ok (.ldc_w 287, 3) := by decide +kernel
theorem dX6_requireKey_17 : decode cX6_requireKey 17 = .ok (.invokespecial 258, 3) := by decide +kernel
theorem dX6_requireKey_20 : decode cX6_requireKey 20 = .ok (.athrow, 1) := by decide +kernel
theorem dX6_requireKey_21 : decode cX6_requireKey 21 = .ok (.return_, 1) := by decide +kernel
theorem dX6_requireRange_0 : decode cX6_requireRange 0 = .ok (.iload_n 1, 1) := by decide +kernel
theorem dX6_requireRange_1 : decode cX6_requireRange 1 = .ok (.iload_n 2, 1) := by decide +kernel
theorem dX6_requireRange_2 : decode cX6_requireRange 2 = .ok (.if_icmp .lt 8, 3) := by decide +kernel
theorem dX6_requireRange_5 : decode cX6_requireRange 5 = .ok (.iload_n 1, 1) := by decide +kernel
theorem dX6_requireRange_6 : decode cX6_requireRange 6 = .ok (.iload_n 3, 1) := by decide +kernel
theorem dX6_requireRange_7 : decode cX6_requireRange 7 = .ok (.if_icmp .le 14, 3) := by decide +kernel
theorem dX6_requireRange_10 : decode cX6_requireRange 10 = .ok (.new 291, 3) := by decide +kernel
theorem dX6_requireRange_13 : decode cX6_requireRange 13 = .ok (.dup, 1) := by decide +kernel
theorem dX6_requireRange_14 : decode cX6_requireRange 14 = .ok (.ldc_w 293, 3) := by decide +kernel
theorem dX6_requireRange_17 : decode cX6_requireRange 17 = .ok (.invokespecial 295, 3) := by decide +kernel
theorem dX6_requireRange_20 : decode cX6_requireRange 20 = .ok (.athrow, 1) := by decide +kernel
theorem dX6_requireRange_21 : decode cX6_requireRange 21 = .ok (.return_, 1) := by decide +kernel
theorem dX6_requireNotNegative_0 : decode cX6_requireNotNegative 0 = .ok (.iload_n 1, 1) := by decide +kernel
theorem dX6_requireNotNegative_1 : decode cX6_requireNotNegative 1 = .ok (.ifCond .ge 14, 3) := by decide +kernel
theorem dX6_requireNotNegative_4 : decode cX6_requireNotNegative 4 = .ok (.new 291, 3) := by decide +kernel
theorem dX6_requireNotNegative_7 : decode cX6_requireNotNegative 7 = .ok (.dup, 1) := by decide +kernel
theorem dX6_requireNotNegative_8 : decode cX6_requireNotNegative 8 = .ok (.ldc_w 296, 3) := by decide +kernel
theorem dX6_requireNotNegative_11 : decode cX6_requireNotNegative 11 = .ok (.invokespecial 295, 3) := by decide +kernel
theorem dX6_requireNotNegative_14 : decode cX6_requireNotNegative 14 = .ok (.athrow, 1) := by decide +kernel
theorem dX6_requireNotNegative_15 : decode cX6_requireNotNegative 15 = .ok (.return_, 1) := by decide +kernel
theorem dX6_requireOpen_0 : decode cX6_requireOpen 0 = .ok (.aload_n 0, 1) := by decide +kernel
theorem dX6_requireOpen_1 : decode cX6_requireOpen 1 = .ok (.getfield 10, 3) := by decide +kernel
theorem dX6_requireOpen_4 : decode cX6_requireOpen 4 = .ok (.getfield 185, 3) := by decide +kernel
theorem dX6_requireOpen_7 : decode cX6_requireOpen 7 = .ok (.iload_n 1, 1) := by decide +kernel
theorem dX6_requireOpen_8 : decode cX6_requireOpen 8 = .ok (.invokevirtual 189, 3) := by decide +kernel
theorem dX6_requireOpen_11 : decode cX6_requireOpen 11 = .ok (.ifCond .ne 14, 3) := by decide +kernel
theorem dX6_requireOpen_14 : decode cX6_requireOpen 14 = .ok (.new 46, 3) := by decide +kernel
theorem dX6_requireOpen_17 : decode cX6_requireOpen 17 = .ok (.dup, 1) := by decide +kernel
theorem dX6_requireOpen_18 : decode cX6_requireOpen 18 = .ok (.ldc_w 298, 3) := by decide +kernel
theorem dX6_requireOpen_21 : decode cX6_requireOpen 21 = .ok (.invokespecial 50, 3) := by decide +kernel
theorem dX6_requireOpen_24 : decode cX6_requireOpen 24 = .ok (.athrow, 1) := by decide +kernel
theorem dX6_requireOpen_25 : decode cX6_requireOpen 25 = .ok (.return_, 1) := by decide +kernel
