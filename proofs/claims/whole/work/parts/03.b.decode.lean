theorem dX6_commit_26 : decode cX6_commit 26 = .ok (.getfield 19, 3) := by decide +kernel
theorem dX6_commit_29 : decode cX6_commit 29 = .ok (.aload_n 0, 1) := by decide +kernel
theorem dX6_commit_30 : decode cX6_commit 30 = .ok (.getfield 10, 3) := by decide +kernel
theorem dX6_commit_33 : decode cX6_commit 33 = .ok (.invokevirtual 53, 3) := by decide +kernel
theorem dX6_commit_36 : decode cX6_commit 36 = .ok (.aload_n 0, 1) := by decide +kernel
theorem dX6_commit_37 : decode cX6_commit 37 = .ok (.getfield 10, 3) := by decide +kernel
theorem dX6_commit_40 : decode cX6_commit 40 = .ok (.iload_n 2, 1) := by decide +kernel
theorem dX6_commit_41 : decode cX6_commit 41 = .ok (.iload_n 1, 1) := by decide +kernel
theorem dX6_commit_42 : decode cX6_commit 42 = .ok (.invokevirtual 85, 3) := by decide +kernel
theorem dX6_commit_45 : decode cX6_commit 45 = .ok (.iload_n 2, 1) := by decide +kernel
theorem dX6_commit_46 : decode cX6_commit 46 = .ok (.ireturn, 1) := by decide +kernel
set_option maxRecDepth 20000 in
theorem ggX6_abort_X6_requireTransaction : GoodIn wsX6_abort wsX6_requireTransaction := goodIn_ca (goodIn_r _ [7, 8, 9, 2, 10, 11, 96, 97, 98, 99, 100, 101, 102, 103, 104, 105, 106, 107, 108, 109, 110, 111, 112, 113, 114] (by decide +kernel) (by decide +kernel)) (goodIn_sub (fun _ h => List.mem_cons_of_mem _ (List.mem_append_left _ (List.mem_append_right _ h))) (by decide +kernel))
set_option maxRecDepth 20000 in
theorem gX6_abort_X6_requireTransaction : GoodIn wsX6_abort (wsV RX6 61 RX6 yX6_requireTransaction wsX6_requireTransaction) := goodIn_app (goodIn_of _ (by decide +kernel)) ggX6_abort_X6_requireTransaction
set_option maxRecDepth 20000 in
theorem ggX6_abort_X6_requireOpen : GoodIn wsX6_abort wsX6_requireOpen := goodIn_ca (goodIn_r _ [15, 16, 17, 2, 10, 18, 19, 20, 21, 22, 23, 24, 96, 97, 98, 99, 100, 101, 102, 103, 104, 105, 106, 107, 108, 109, 110, 111, 112, 113, 114] (by decide +kernel) (by decide +kernel)) (goodIn_sub (fun _ h => List.mem_cons_of_mem _ (List.mem_append_right _ h)) (by decide +kernel))
set_option maxRecDepth 20000 in
theorem gX6_abort_X6_requireOpen : GoodIn wsX6_abort (wsV RX6 67 RX6 yX6_requireOpen wsX6_requireOpen) := goodIn_app (goodIn_of _ (by decide +kernel)) ggX6_abort_X6_requireOpen
set_option maxRecDepth 20000 in
theorem ggX6_abort_X0_push : GoodIn wsX6_abort wsX0_push := goodIn_r _ [29, 30, 31, 32, 33, 34, 35, 36, 37, 38, 39, 40, 41, 42, 43, 44, 45, 46, 47, 48, 49, 50, 51, 52, 53, 54, 55, 56, 57, 58, 59, 60, 61, 62, 63, 64, 65, 66, 67, 68, 69, 70, 71, 72, 73, 74, 21, 75, 23, 76, 77, 24, 78, 79, 80, 81, 82, 115, 116, 117, 101, 102, 103, 104, 105, 106, 118, 119, 120, 121, 122, 123, 124, 125, 126, 127, 107, 108, 109, 110, 111, 112, 113, 114] (by decide +kernel) (by decide +kernel)
set_option maxRecDepth 20000 in
theorem gX6_abort_X0_push : GoodIn wsX6_abort (wsV RX6 53 RX0 yX0_push wsX0_push) := goodIn_app (goodIn_of _ (by decide +kernel)) ggX6_abort_X0_push
set_option maxRecDepth 20000 in
theorem ggX6_abort_X2_makeAborted : GoodIn wsX6_abort wsX2_makeAborted := goodIn_r _ [86, 47, 87, 88, 89, 90, 21, 91, 92, 93, 94, 95, 81, 101, 102, 103, 104, 105, 106, 107, 108, 109, 110, 111, 112, 113, 114] (by decide +kernel) (by decide +kernel)
set_option maxRecDepth 20000 in
theorem gX6_abort_X2_makeAborted : GoodIn wsX6_abort (wsV RX6 89 RX2 yX2_makeAborted wsX2_makeAborted) := goodIn_app (goodIn_of _ (by decide +kernel)) ggX6_abort_X2_makeAborted
theorem dX6_abort_0 : decode cX6_abort 0 = .ok (.aload_n 0, 1) := by decide +kernel
theorem dX6_abort_1 : decode cX6_abort 1 = .ok (.iload_n 1, 1) := by decide +kernel
theorem dX6_abort_2 : decode cX6_abort 2 = .ok (.invokevirtual 61, 3) := by decide +kernel
theorem dX6_abort_5 : decode cX6_abort 5 = .ok (.aload_n 0, 1) := by decide +kernel
theorem dX6_abort_6 : decode cX6_abort 6 = .ok (.iload_n 1, 1) := by decide +kernel
theorem dX6_abort_7 : decode cX6_abort 7 = .ok (.invokevirtual 67, 3) := by decide +kernel
theorem dX6_abort_10 : decode cX6_abort 10 = .ok (.aload_n 0, 1) := by decide +kernel
theorem dX6_abort_11 : decode cX6_abort 11 = .ok (.getfield 19, 3) := by decide +kernel
theorem dX6_abort_14 : decode cX6_abort 14 = .ok (.aload_n 0, 1) := by decide +kernel
theorem dX6_abort_15 : decode cX6_abort 15 = .ok (.getfield 10, 3) := by decide +kernel
theorem dX6_abort_18 : decode cX6_abort 18 = .ok (.invokevirtual 53, 3) := by decide +kernel
theorem dX6_abort_21 : decode cX6_abort 21 = .ok (.aload_n 0, 1) := by decide +kernel
theorem dX6_abort_22 : decode cX6_abort 22 = .ok (.getfield 10, 3) := by decide +kernel
theorem dX6_abort_25 : decode cX6_abort 25 = .ok (.iload_n 1, 1) := by decide +kernel
theorem dX6_abort_26 : decode cX6_abort 26 = .ok (.invokevirtual 89, 3) := by decide +kernel
theorem dX6_abort_29 : decode cX6_abort 29 = .ok (.ireturn, 1) := by decide +kernel
set_option maxRecDepth 20000 in
theorem ggX6_advance_X6_requireRange : GoodIn wsX6_advance wsX6_requireRange := goodIn_ca (goodIn_r _ [9, 10, 11] (by decide +kernel) (by decide +kernel)) (goodIn_sub (fun _ h => List.mem_cons_of_mem _ (List.mem_append_right _ h)) (by decide +kernel))
set_option maxRecDepth 20000 in
theorem gX6_advance_X6_requireRange : GoodIn wsX6_advance (wsV RX6 74 RX6 yX6_requireRange wsX6_requireRange) := goodIn_app (goodIn_of _ (by decide +kernel)) ggX6_advance_X6_requireRange
set_option maxRecDepth 20000 in
theorem ggX6_advance_X2_canAdvance : GoodIn wsX6_advance wsX2_canAdvance := goodIn_r _ [16, 17, 18, 132, 133, 134, 135, 136, 137] (by decide +kernel) (by decide +kernel)
set_option maxRecDepth 20000 in
theorem gX6_advance_X2_canAdvance : GoodIn wsX6_advance (wsV RX6 92 RX2 yX2_canAdvance wsX2_canAdvance) := goodIn_app (goodIn_of _ (by decide +kernel)) ggX6_advance_X2_canAdvance
set_option maxRecDepth 20000 in
theorem ggX6_advance_X0_push : GoodIn wsX6_advance wsX0_push := goodIn_r _ [23, 24, 25, 26, 27, 28, 29, 30, 31, 32, 33, 15, 34, 17, 35, 36, 37, 38, 39, 40, 41, 42, 43, 44, 45, 46, 47, 48, 49, 50, 51, 52, 53, 54, 55, 56, 57, 58, 59, 60, 61, 62, 63, 64, 65, 66, 67, 68, 69, 70, 71, 72, 73, 74, 75, 76, 77, 138, 139, 140, 132, 133, 134, 135, 136, 137, 141, 142, 143, 144, 145, 146, 147, 148, 149, 150, 151, 152, 153, 154, 155, 156, 157, 158] (by decide +kernel) (by decide +kernel)
set_option maxRecDepth 20000 in
theorem gX6_advance_X0_push : GoodIn wsX6_advance (wsV RX6 53 RX0 yX0_push wsX0_push) := goodIn_app (goodIn_of _ (by decide +kernel)) ggX6_advance_X0_push
set_option maxRecDepth 20000 in
theorem ggX6_advance_X2_advanceBy : GoodIn wsX6_advance wsX2_advanceBy := goodIn_r _ [81, 39, 82, 83, 17, 84, 85, 86, 15, 87, 37, 88, 89, 90, 91, 92, 43, 93, 94, 95, 96, 97, 45, 47, 46, 98, 99, 100, 101, 102, 103, 104, 105, 48, 49, 50, 106, 107, 108, 109, 110, 38, 36, 111, 112, 113, 67, 114, 76, 115, 116, 117, 118, 119, 120, 121, 55, 122, 57, 58, 63, 123, 124, 125, 126, 132, 133, 134, 135, 136, 137, 151, 152, 153, 154, 155, 156, 157, 158, 141, 142, 143, 144, 145, 146, 147, 148, 149, 150] (by decide +kernel) (by decide +kernel)
set_option maxRecDepth 20000 in
theorem gX6_advance_X2_advanceBy : GoodIn wsX6_advance (wsV RX6 98 RX2 yX2_advanceBy wsX2_advanceBy) := goodIn_app (goodIn_of _ (by decide +kernel)) ggX6_advance_X2_advanceBy
theorem dX6_advance_0 : decode cX6_advance 0 = .ok (.aload_n 0, 1) := by decide +kernel
theorem dX6_advance_1 : decode cX6_advance 1 = .ok (.iload_n 1, 1) := by decide +kernel
theorem dX6_advance_2 : decode cX6_advance 2 = .ok (.iconst 1, 1) := by decide +kernel
theorem dX6_advance_3 : decode cX6_advance 3 = .ok (.sipush 1000, 3) := by decide +kernel
theorem dX6_advance_6 : decode cX6_advance 6 = .ok (.invokevirtual 74, 3) := by decide +kernel
theorem dX6_advance_9 : decode cX6_advance 9 = .ok (.aload_n 0, 1) := by decide +kernel
theorem dX6_advance_10 : decode cX6_advance 10 = .ok (.getfield 10, 3) := by decide +kernel
theorem dX6_advance_13 : decode cX6_advance 13 = .ok (.iload_n 1, 1) := by decide +kernel
theorem dX6_advance_14 : decode cX6_advance 14 = .ok (.invokevirtual 92, 3) := by decide +kernel
theorem dX6_advance_17 : decode cX6_advance 17 = .ok (.ifCond .ne 13, 3) := by decide +kernel
theorem dX6_advance_20 : decode cX6_advance 20 = .ok (.new 46, 3) := by decide +kernel
theorem dX6_advance_23 : decode cX6_advance 23 = .ok (.dup, 1) := by decide +kernel
theorem dX6_advance_24 : decode cX6_advance 24 = .ok (.ldc 96, 2) := by decide +kernel
theorem dX6_advance_26 : decode cX6_advance 26 = .ok (.invokespecial 50, 3) := by decide +kernel
theorem dX6_advance_29 : decode cX6_advance 29 = .ok (.athrow, 1) := by decide +kernel
theorem dX6_advance_30 : decode cX6_advance 30 = .ok (.aload_n 0, 1) := by decide +kernel
theorem dX6_advance_31 : decode cX6_advance 31 = .ok (.getfield 19, 3) := by decide +kernel
theorem dX6_advance_34 : decode cX6_advance 34 = .ok (.aload_n 0, 1) := by decide +kernel
theorem dX6_advance_35 : decode cX6_advance 35 = .ok (.getfield 10, 3) := by decide +kernel
theorem dX6_advance_38 : decode cX6_advance 38 = .ok (.invokevirtual 53, 3) := by decide +kernel
theorem dX6_advance_41 : decode cX6_advance 41 = .ok (.aload_n 0, 1) := by decide +kernel
theorem dX6_advance_42 : decode cX6_advance 42 = .ok (.getfield 10, 3) := by decide +kernel
theorem dX6_advance_45 : decode cX6_advance 45 = .ok (.iload_n 1, 1) := by decide +kernel
theorem dX6_advance_46 : decode cX6_advance 46 = .ok (.invokevirtual 98, 3) := by decide +kernel
theorem dX6_advance_49 : decode cX6_advance 49 = .ok (.ireturn, 1) := by decide +kernel
set_option maxRecDepth 20000 in
theorem ggX6_synchronize_X6_requireServer : GoodIn wsX6_synchronize wsX6_requireServer := goodIn_ca (goodIn_r _ [7, 8, 9] (by decide +kernel) (by decide +kernel)) (goodIn_sub (fun _ h => List.mem_cons_of_mem _ (List.mem_append_left _ (List.mem_append_right _ h))) (by decide +kernel))
set_option maxRecDepth 20000 in
theorem gX6_synchronize_X6_requireServer : GoodIn wsX6_synchronize (wsV RX6 38 RX6 yX6_requireServer wsX6_requireServer) := goodIn_app (goodIn_of _ (by decide +kernel)) ggX6_synchronize_X6_requireServer
set_option maxRecDepth 20000 in
theorem ggX6_synchronize_X6_requireRange : GoodIn wsX6_synchronize wsX6_requireRange := goodIn_ca (goodIn_r _ [13, 14, 15] (by decide +kernel) (by decide +kernel)) (goodIn_sub (fun _ h => List.mem_cons_of_mem _ (List.mem_append_right _ h)) (by decide +kernel))
set_option maxRecDepth 20000 in
theorem gX6_synchronize_X6_requireRange : GoodIn wsX6_synchronize (wsV RX6 74 RX6 yX6_requireRange wsX6_requireRange) := goodIn_app (goodIn_of _ (by decide +kernel)) ggX6_synchronize_X6_requireRange
set_option maxRecDepth 20000 in
theorem ggX6_synchronize_X0_push : GoodIn wsX6_synchronize wsX0_push := goodIn_r _ [20, 21, 22, 23, 24, 25, 26, 27, 28, 29, 30, 31, 32, 33, 34, 35, 36, 37, 38, 39, 40, 41, 42, 43, 44, 45, 46, 47, 48, 49, 50, 51, 52, 53, 54, 55, 56, 57, 58, 59, 60, 61, 62, 63, 64, 65, 66, 67, 68, 69, 70, 71, 72, 73, 74, 75, 76, 98, 99, 100, 101, 102, 103, 104, 105, 106, 107, 108, 109, 110, 111, 112, 113, 114, 115, 116, 117, 118, 119, 120, 121, 122, 123, 124] (by decide +kernel) (by decide +kernel)
set_option maxRecDepth 20000 in
theorem gX6_synchronize_X0_push : GoodIn wsX6_synchronize (wsV RX6 53 RX0 yX0_push wsX0_push) := goodIn_app (goodIn_of _ (by decide +kernel)) ggX6_synchronize_X0_push
set_option maxRecDepth 20000 in
theorem ggX6_synchronize_X2_synchronizeClock : GoodIn wsX6_synchronize wsX2_synchronizeClock := goodIn_r _ [80, 36, 33, 81, 82, 83, 42, 84, 44, 46, 45, 85, 86, 87, 88, 89, 90, 91, 92, 49, 101, 102, 103, 104, 105, 106, 107, 108, 109, 110, 111, 112, 113] (by decide +kernel) (by decide +kernel)
set_option maxRecDepth 20000 in
theorem gX6_synchronize_X2_synchronizeClock : GoodIn wsX6_synchronize (wsV RX6 101 RX2 yX2_synchronizeClock wsX2_synchronizeClock) := goodIn_app (goodIn_of _ (by decide +kernel)) ggX6_synchronize_X2_synchronizeClock
theorem dX6_synchronize_0 : decode cX6_synchronize 0 = .ok (.aload_n 0, 1) := by decide +kernel
theorem dX6_synchronize_1 : decode cX6_synchronize 1 = .ok (.iload_n 1, 1) := by decide +kernel
theorem dX6_synchronize_2 : decode cX6_synchronize 2 = .ok (.invokevirtual 38, 3) := by decide +kernel
theorem dX6_synchronize_5 : decode cX6_synchronize 5 = .ok (.aload_n 0, 1) := by decide +kernel
theorem dX6_synchronize_6 : decode cX6_synchronize 6 = .ok (.iload_n 2, 1) := by decide +kernel
theorem dX6_synchronize_7 : decode cX6_synchronize 7 = .ok (.sipush (-500), 3) := by decide +kernel
theorem dX6_synchronize_10 : decode cX6_synchronize 10 = .ok (.sipush 500, 3) := by decide +kernel
theorem dX6_synchronize_13 : decode cX6_synchronize 13 = .ok (.invokevirtual 74, 3) := by decide +kernel
theorem dX6_synchronize_16 : decode cX6_synchronize 16 = .ok (.aload_n 0, 1) := by decide +kernel
theorem dX6_synchronize_17 : decode cX6_synchronize 17 = .ok (.getfield 19, 3) := by decide +kernel
theorem dX6_synchronize_20 : decode cX6_synchronize 20 = .ok (.aload_n 0, 1) := by decide +kernel
theorem dX6_synchronize_21 : decode cX6_synchronize 21 = .ok (.getfield 10, 3) := by decide +kernel
theorem dX6_synchronize_24 : decode cX6_synchronize 24 = .ok (.invokevirtual 53, 3) := by decide +kernel
theorem dX6_synchronize_27 : decode cX6_synchronize 27 = .ok (.aload_n 0, 1) := by decide +kernel
theorem dX6_synchronize_28 : decode cX6_synchronize 28 = .ok (.getfield 10, 3) := by decide +kernel
theorem dX6_synchronize_31 : decode cX6_synchronize 31 = .ok (.iload_n 1, 1) := by decide +kernel
theorem dX6_synchronize_32 : decode cX6_synchronize 32 = .ok (.iload_n 2, 1) := by decide +kernel
theorem dX6_synchronize_33 : decode cX6_synchronize 33 = .ok (.invokevirtual 101, 3) := by decide +kernel
theorem dX6_synchronize_36 : decode cX6_synchronize 36 = .ok (.ireturn, 1) := by decide +kernel
set_option maxRecDepth 20000 in
theorem ggX6_setDrift_X6_requireServer : GoodIn wsX6_setDrift wsX6_requireServer := goodIn_ca (goodIn_r _ [9, 10, 11] (by decide +kernel) (by decide +kernel)) (goodIn_sub (fun _ h => List.mem_cons_of_mem _ (List.mem_append_left _ (List.mem_append_right _ h))) (by decide +kernel))
set_option maxRecDepth 20000 in
theorem gX6_setDrift_X6_requireServer : GoodIn wsX6_setDrift (wsV RX6 38 RX6 yX6_requireServer wsX6_requireServer) := goodIn_app (goodIn_of _ (by decide +kernel)) ggX6_setDrift_X6_requireServer
set_option maxRecDepth 20000 in
theorem ggX6_setDrift_X6_requireRange : GoodIn wsX6_setDrift wsX6_requireRange := goodIn_ca (goodIn_r _ [15, 16, 17] (by decide +kernel) (by decide +kernel)) (goodIn_sub (fun _ h => List.mem_cons_of_mem _ (List.mem_append_right _ h)) (by decide +kernel))
set_option maxRecDepth 20000 in
theorem gX6_setDrift_X6_requireRange : GoodIn wsX6_setDrift (wsV RX6 74 RX6 yX6_requireRange wsX6_requireRange) := goodIn_app (goodIn_of _ (by decide +kernel)) ggX6_setDrift_X6_requireRange
set_option maxRecDepth 20000 in
theorem ggX6_setDrift_X0_push : GoodIn wsX6_setDrift wsX0_push := goodIn_r _ [22, 23, 24, 25, 26, 27, 28, 29, 30, 31, 32, 33, 34, 35, 36, 37, 38, 39, 40, 41, 42, 43, 44, 45, 46, 47, 48, 49, 50, 51, 52, 53, 54, 55, 56, 57, 58, 59, 60, 61, 62, 63, 64, 65, 66, 67, 68, 69, 70, 71, 72, 73, 74, 75, 76, 77, 78, 102, 103, 104, 96, 97, 98, 99, 100, 101, 105, 106, 107, 108, 109, 110, 111, 112, 113, 114, 115, 116, 117, 118, 119, 120, 121, 122] (by decide +kernel) (by decide +kernel)
set_option maxRecDepth 20000 in
theorem gX6_setDrift_X0_push : GoodIn wsX6_setDrift (wsV RX6 53 RX0 yX0_push wsX0_push) := goodIn_app (goodIn_of _ (by decide +kernel)) ggX6_setDrift_X0_push
set_option maxRecDepth 20000 in
theorem ggX6_setDrift_X1_changeDrift : GoodIn wsX6_setDrift wsX1_changeDrift := goodIn_r _ [82, 48, 46, 47, 83, 84, 85, 44, 86, 87, 88, 89, 90, 105, 106, 107, 108, 109, 110, 111] (by decide +kernel) (by decide +kernel)
set_option maxRecDepth 20000 in
theorem gX6_setDrift_X1_changeDrift : GoodIn wsX6_setDrift (wsV RX6 112 RX1 yX1_changeDrift wsX1_changeDrift) := goodIn_app (goodIn_of _ (by decide +kernel)) ggX6_setDrift_X1_changeDrift
theorem dX6_setDrift_0 : decode cX6_setDrift 0 = .ok (.aload_n 0, 1) := by decide +kernel
theorem dX6_setDrift_1 : decode cX6_setDrift 1 = .ok (.iload_n 1, 1) := by decide +kernel
theorem dX6_setDrift_2 : decode cX6_setDrift 2 = .ok (.invokevirtual 38, 3) := by decide +kernel
theorem dX6_setDrift_5 : decode cX6_setDrift 5 = .ok (.aload_n 0, 1) := by decide +kernel
theorem dX6_setDrift_6 : decode cX6_setDrift 6 = .ok (.iload_n 2, 1) := by decide +kernel
theorem dX6_setDrift_7 : decode cX6_setDrift 7 = .ok (.bipush (-100), 2) := by decide +kernel
theorem dX6_setDrift_9 : decode cX6_setDrift 9 = .ok (.bipush 100, 2) := by decide +kernel
theorem dX6_setDrift_11 : decode cX6_setDrift 11 = .ok (.invokevirtual 74, 3) := by decide +kernel
theorem dX6_setDrift_14 : decode cX6_setDrift 14 = .ok (.aload_n 0, 1) := by decide +kernel
theorem dX6_setDrift_15 : decode cX6_setDrift 15 = .ok (.getfield 19, 3) := by decide +kernel
theorem dX6_setDrift_18 : decode cX6_setDrift 18 = .ok (.aload_n 0, 1) := by decide +kernel
theorem dX6_setDrift_19 : decode cX6_setDrift 19 = .ok (.getfield 10, 3) := by decide +kernel
theorem dX6_setDrift_22 : decode cX6_setDrift 22 = .ok (.invokevirtual 53, 3) := by decide +kernel
theorem dX6_setDrift_25 : decode cX6_setDrift 25 = .ok (.aload_n 0, 1) := by decide +kernel
theorem dX6_setDrift_26 : decode cX6_setDrift 26 = .ok (.getfield 10, 3) := by decide +kernel
theorem dX6_setDrift_29 : decode cX6_setDrift 29 = .ok (.getfield 104, 3) := by decide +kernel
theorem dX6_setDrift_32 : decode cX6_setDrift 32 = .ok (.iload_n 1, 1) := by decide +kernel
theorem dX6_setDrift_33 : decode cX6_setDrift 33 = .ok (.aaload, 1) := by decide +kernel
theorem dX6_setDrift_34 : decode cX6_setDrift 34 = .ok (.iload_n 2, 1) := by decide +kernel
theorem dX6_setDrift_35 : decode cX6_setDrift 35 = .ok (.aload_n 0, 1) := by decide +kernel
theorem dX6_setDrift_36 : decode cX6_setDrift 36 = .ok (.getfield 10, 3) := by decide +kernel
theorem dX6_setDrift_39 : decode cX6_setDrift 39 = .ok (.getfield 108, 3) := by decide +kernel
theorem dX6_setDrift_42 : decode cX6_setDrift 42 = .ok (.invokevirtual 112, 3) := by decide +kernel
theorem dX6_setDrift_45 : decode cX6_setDrift 45 = .ok (.ireturn, 1) := by decide +kernel
set_option maxRecDepth 20000 in
theorem ggX6_setUncertainty_X6_requireServer : GoodIn wsX6_setUncertainty wsX6_requireServer := goodIn_ca (goodIn_r _ [9, 10, 11] (by decide +kernel) (by decide +kernel)) (goodIn_sub (fun _ h => List.mem_cons_of_mem _ (List.mem_append_left _ (List.mem_append_right _ h))) (by decide +kernel))
set_option maxRecDepth 20000 in
theorem gX6_setUncertainty_X6_requireServer : GoodIn wsX6_setUncertainty (wsV RX6 38 RX6 yX6_requireServer wsX6_requireServer) := goodIn_app (goodIn_of _ (by decide +kernel)) ggX6_setUncertainty_X6_requireServer
set_option maxRecDepth 20000 in
theorem ggX6_setUncertainty_X6_requireRange : GoodIn wsX6_setUncertainty wsX6_requireRange := goodIn_ca (goodIn_r _ [15, 16, 17] (by decide +kernel) (by decide +kernel)) (goodIn_sub (fun _ h => List.mem_cons_of_mem _ (List.mem_append_right _ h)) (by decide +kernel))
set_option maxRecDepth 20000 in
theorem gX6_setUncertainty_X6_requireRange : GoodIn wsX6_setUncertainty (wsV RX6 74 RX6 yX6_requireRange wsX6_requireRange) := goodIn_app (goodIn_of _ (by decide +kernel)) ggX6_setUncertainty_X6_requireRange
set_option maxRecDepth 20000 in
theorem ggX6_setUncertainty_X0_push : GoodIn wsX6_setUncertainty wsX0_push := goodIn_r _ [22, 23, 24, 25, 26, 27, 28, 29, 30, 31, 32, 33, 34, 35, 36, 37, 38, 39, 40, 41, 42, 43, 44, 45, 46, 47, 48, 49, 50, 51, 52, 53, 54, 55, 56, 57, 58, 59, 60, 61, 62, 63, 64, 65, 66, 67, 68, 69, 70, 71, 72, 73, 74, 75, 76, 77, 78, 102, 103, 104, 96, 97, 98, 99, 100, 101, 105, 106, 107, 108, 109, 110, 111, 112, 113, 114, 115, 116, 117, 118, 119, 120, 121, 122] (by decide +kernel) (by decide +kernel)
set_option maxRecDepth 20000 in
theorem gX6_setUncertainty_X0_push : GoodIn wsX6_setUncertainty (wsV RX6 53 RX0 yX0_push wsX0_push) := goodIn_app (goodIn_of _ (by decide +kernel)) ggX6_setUncertainty_X0_push
set_option maxRecDepth 20000 in
theorem ggX6_setUncertainty_X1_changeUncertainty : GoodIn wsX6_setUncertainty wsX1_changeUncertainty := goodIn_r _ [82, 49, 50, 105, 106, 107, 108, 109, 110, 111] (by decide +kernel) (by decide +kernel)
set_option maxRecDepth 20000 in
theorem gX6_setUncertainty_X1_changeUncertainty : GoodIn wsX6_setUncertainty (wsV RX6 117 RX1 yX1_changeUncertainty wsX1_changeUncertainty) := goodIn_app (goodIn_of _ (by decide +kernel)) ggX6_setUncertainty_X1_changeUncertainty
set_option maxRecDepth 20000 in
theorem ggX6_setUncertainty_X1_uncertaintyAt : GoodIn wsX6_setUncertainty wsX1_uncertaintyAt := goodIn_r _ [86, 49, 50, 51, 87, 88, 89, 90, 105, 106, 107, 108, 109, 110, 111] (by decide +kernel) (by decide +kernel)
set_option maxRecDepth 20000 in
theorem gX6_setUncertainty_X1_uncertaintyAt : GoodIn wsX6_setUncertainty (wsV RX6 120 RX1 yX1_uncertaintyAt wsX1_uncertaintyAt) := goodIn_app (goodIn_of _ (by decide +kernel)) ggX6_setUncertainty_X1_uncertaintyAt
theorem dX6_setUncertainty_0 : decode cX6_setUncertainty 0 = .ok (.aload_n 0, 1) := by decide +kernel
theorem dX6_setUncertainty_1 : decode cX6_setUncertainty 1 = .ok (.iload_n 1, 1) := by decide +kernel
theorem dX6_setUncertainty_2 : decode cX6_setUncertainty 2 = .ok (.invokevirtual 38, 3) := by decide +kernel
theorem dX6_setUncertainty_5 : decode cX6_setUncertainty 5 = .ok (.aload_n 0, 1) := by decide +kernel
theorem dX6_setUncertainty_6 : decode cX6_setUncertainty 6 = .ok (.iload_n 2, 1) := by decide +kernel
theorem dX6_setUncertainty_7 : decode cX6_setUncertainty 7 = .ok (.iconst 0, 1) := by decide +kernel
theorem dX6_setUncertainty_8 : decode cX6_setUncertainty 8 = .ok (.sipush 500, 3) := by decide +kernel
theorem dX6_setUncertainty_11 : decode cX6_setUncertainty 11 = .ok (.invokevirtual 74, 3) := by decide +kernel
theorem dX6_setUncertainty_14 : decode cX6_setUncertainty 14 = .ok (.aload_n 0, 1) := by decide +kernel
theorem dX6_setUncertainty_15 : decode cX6_setUncertainty 15 = .ok (.iload_n 3, 1) := by decide +kernel
theorem dX6_setUncertainty_16 : decode cX6_setUncertainty 16 = .ok (.iconst 0, 1) := by decide +kernel
theorem dX6_setUncertainty_17 : decode cX6_setUncertainty 17 = .ok (.bipush 100, 2) := by decide +kernel
theorem dX6_setUncertainty_19 : decode cX6_setUncertainty 19 = .ok (.invokevirtual 74, 3) := by decide +kernel
theorem dX6_setUncertainty_22 : decode cX6_setUncertainty 22 = .ok (.aload_n 0, 1) := by decide +kernel
theorem dX6_setUncertainty_23 : decode cX6_setUncertainty 23 = .ok (.getfield 19, 3) := by decide +kernel
theorem dX6_setUncertainty_26 : decode cX6_setUncertainty 26 = .ok (.aload_n 0, 1) := by decide +kernel
theorem dX6_setUncertainty_27 : decode cX6_setUncertainty 27 = .ok (.getfield 10, 3) := by decide +kernel
theorem dX6_setUncertainty_30 : decode cX6_setUncertainty 30 = .ok (.invokevirtual 53, 3) := by decide +kernel
theorem dX6_setUncertainty_33 : decode cX6_setUncertainty 33 = .ok (.aload_n 0, 1) := by decide +kernel
theorem dX6_setUncertainty_34 : decode cX6_setUncertainty 34 = .ok (.getfield 10, 3) := by decide +kernel
theorem dX6_setUncertainty_37 : decode cX6_setUncertainty 37 = .ok (.getfield 104, 3) := by decide +kernel
theorem dX6_setUncertainty_40 : decode cX6_setUncertainty 40 = .ok (.iload_n 1, 1) := by decide +kernel
theorem dX6_setUncertainty_41 : decode cX6_setUncertainty 41 = .ok (.aaload, 1) := by decide +kernel
theorem dX6_setUncertainty_42 : decode cX6_setUncertainty 42 = .ok (.iload_n 2, 1) := by decide +kernel
theorem dX6_setUncertainty_43 : decode cX6_setUncertainty 43 = .ok (.iload_n 3, 1) := by decide +kernel
theorem dX6_setUncertainty_44 : decode cX6_setUncertainty 44 = .ok (.invokevirtual 117, 3) := by decide +kernel
theorem dX6_setUncertainty_47 : decode cX6_setUncertainty 47 = .ok (.aload_n 0, 1) := by decide +kernel
theorem dX6_setUncertainty_48 : decode cX6_setUncertainty 48 = .ok (.getfield 10, 3) := by decide +kernel
theorem dX6_setUncertainty_51 : decode cX6_setUncertainty 51 = .ok (.getfield 104, 3) := by decide +kernel
theorem dX6_setUncertainty_54 : decode cX6_setUncertainty 54 = .ok (.iload_n 1, 1) := by decide +kernel
theorem dX6_setUncertainty_55 : decode cX6_setUncertainty 55 = .ok (.aaload, 1) := by decide +kernel
theorem dX6_setUncertainty_56 : decode cX6_setUncertainty 56 = .ok (.aload_n 0, 1) := by decide +kernel
theorem dX6_setUncertainty_57 : decode cX6_setUncertainty 57 = .ok (.getfield 10, 3) := by decide +kernel
theorem dX6_setUncertainty_60 : decode cX6_setUncertainty 60 = .ok (.getfield 108, 3) := by decide +kernel
theorem dX6_setUncertainty_63 : decode cX6_setUncertainty 63 = .ok (.invokevirtual 120, 3) := by decide +kernel
theorem dX6_setUncertainty_66 : decode cX6_setUncertainty 66 = .ok (.ireturn, 1) := by decide +kernel
set_option maxRecDepth 20000 in
theorem ggX6_snapshotRead_X6_requireKey : GoodIn wsX6_snapshotRead wsX6_requireKey := goodIn_ca (goodIn_r _ [15, 16, 17] (by decide +kernel) (by decide +kernel)) (goodIn_sub (fun _ h => List.mem_cons_of_mem _ (List.mem_append_left _ (List.mem_append_right _ h))) (by decide +kernel))
set_option maxRecDepth 20000 in
theorem gX6_snapshotRead_X6_requireKey : GoodIn wsX6_snapshotRead (wsV RX6 64 RX6 yX6_requireKey wsX6_requireKey) := goodIn_app (goodIn_of _ (by decide +kernel)) ggX6_snapshotRead_X6_requireKey
set_option maxRecDepth 20000 in
theorem ggX6_snapshotRead_X6_requireNotNegative : GoodIn wsX6_snapshotRead wsX6_requireNotNegative := goodIn_ca (goodIn_r _ [21, 22, 23] (by decide +kernel) (by decide +kernel)) (goodIn_sub (fun _ h => List.mem_cons_of_mem _ (List.mem_append_right _ h)) (by decide +kernel))
set_option maxRecDepth 20000 in
theorem gX6_snapshotRead_X6_requireNotNegative : GoodIn wsX6_snapshotRead (wsV RX6 123 RX6 yX6_requireNotNegative wsX6_requireNotNegative) := goodIn_app (goodIn_of _ (by decide +kernel)) ggX6_snapshotRead_X6_requireNotNegative
set_option maxRecDepth 20000 in
theorem ggX6_snapshotRead_X2_safeTimeNow : GoodIn wsX6_snapshotRead wsX2_safeTimeNow := goodIn_r _ [28, 29, 30, 8, 31, 32, 33, 34, 35, 36, 37, 38, 27, 39, 40, 41, 42, 43, 7, 9, 44, 45, 46, 47, 48, 49, 50, 51, 52, 53, 54, 55, 56, 57, 58, 59, 60, 61, 62, 63, 64, 65, 66, 67, 135, 136, 137, 138, 139, 140, 141, 142, 143, 144, 145, 146, 147, 148, 149, 150, 151, 152, 153, 154, 155] (by decide +kernel) (by decide +kernel)
set_option maxRecDepth 20000 in
theorem gX6_snapshotRead_X2_safeTimeNow : GoodIn wsX6_snapshotRead (wsV RX6 126 RX2 yX2_safeTimeNow wsX2_safeTimeNow) := goodIn_app (goodIn_of _ (by decide +kernel)) ggX6_snapshotRead_X2_safeTimeNow
set_option maxRecDepth 20000 in
theorem ggX6_snapshotRead_X0_push : GoodIn wsX6_snapshotRead wsX0_push := goodIn_r _ [72, 73, 74, 75, 76, 30, 8, 31, 77, 78, 79, 27, 80, 44, 42, 81, 40, 82, 32, 83, 84, 85, 48, 86, 54, 56, 55, 65, 66, 67, 87, 88, 89, 90, 91, 92, 93, 94, 95, 96, 97, 98, 99, 100, 101, 102, 103, 104, 105, 106, 107, 108, 109, 110, 111, 112, 113, 156, 157, 158, 135, 136, 137, 138, 139, 140, 149, 150, 151, 152, 153, 154, 155, 159, 160, 161, 141, 142, 143, 144, 145, 146, 147, 148] (by decide +kernel) (by decide +kernel)
set_option maxRecDepth 20000 in
theorem gX6_snapshotRead_X0_push : GoodIn wsX6_snapshotRead (wsV RX6 53 RX0 yX0_push wsX0_push) := goodIn_app (goodIn_of _ (by decide +kernel)) ggX6_snapshotRead_X0_push
set_option maxRecDepth 20000 in
theorem ggX6_snapshotRead_X5_valueOf : GoodIn wsX6_snapshotRead wsX5_valueOf := goodIn_r _ [117, 118, 119, 120, 91, 121, 93, 122, 123, 124, 125, 94, 126, 127, 128, 129, 99, 159, 160, 161] (by decide +kernel) (by decide +kernel)
set_option maxRecDepth 20000 in
theorem gX6_snapshotRead_X5_valueOf : GoodIn wsX6_snapshotRead (wsV RX6 144 RX5 yX5_valueOf wsX5_valueOf) := goodIn_app (goodIn_of _ (by decide +kernel)) ggX6_snapshotRead_X5_valueOf
theorem dX6_snapshotRead_0 : decode cX6_snapshotRead 0 = .ok (.aload_n 0, 1) := by decide +kernel
theorem dX6_snapshotRead_1 : decode cX6_snapshotRead 1 = .ok (.iload_n 1, 1) := by decide +kernel
theorem dX6_snapshotRead_2 : decode cX6_snapshotRead 2 = .ok (.invokevirtual 64, 3) := by decide +kernel
theorem dX6_snapshotRead_5 : decode cX6_snapshotRead 5 = .ok (.aload_n 0, 1) := by decide +kernel
theorem dX6_snapshotRead_6 : decode cX6_snapshotRead 6 = .ok (.iload_n 2, 1) := by decide +kernel
theorem dX6_snapshotRead_7 : decode cX6_snapshotRead 7 = .ok (.invokevirtual 123, 3) := by decide +kernel
theorem dX6_snapshotRead_10 : decode cX6_snapshotRead 10 = .ok (.iload_n 2, 1) := by decide +kernel
theorem dX6_snapshotRead_11 : decode cX6_snapshotRead 11 = .ok (.aload_n 0, 1) := by decide +kernel
theorem dX6_snapshotRead_12 : decode cX6_snapshotRead 12 = .ok (.getfield 10, 3) := by decide +kernel
theorem dX6_snapshotRead_15 : decode cX6_snapshotRead 15 = .ok (.invokevirtual 126, 3) := by decide +kernel
theorem dX6_snapshotRead_18 : decode cX6_snapshotRead 18 = .ok (.if_icmp .le 13, 3) := by decide +kernel
theorem dX6_snapshotRead_21 : decode cX6_snapshotRead 21 = .ok (.new 46, 3) := by decide +kernel
theorem dX6_snapshotRead_24 : decode cX6_snapshotRead 24 = .ok (.dup, 1) := by decide +kernel
theorem dX6_snapshotRead_25 : decode cX6_snapshotRead 25 = .ok (.ldc 130, 2) := by decide +kernel
theorem dX6_snapshotRead_27 : decode cX6_snapshotRead 27 = .ok (.invokespecial 50, 3) := by decide +kernel
theorem dX6_snapshotRead_30 : decode cX6_snapshotRead 30 = .ok (.athrow, 1) := by decide +kernel
theorem dX6_snapshotRead_31 : decode cX6_snapshotRead 31 = .ok (.aload_n 0, 1) := by decide +kernel
theorem dX6_snapshotRead_32 : decode cX6_snapshotRead 32 = .ok (.getfield 19, 3) := by decide +kernel
theorem dX6_snapshotRead_35 : decode cX6_snapshotRead 35 = .ok (.aload_n 0, 1) := by decide +kernel
theorem dX6_snapshotRead_36 : decode cX6_snapshotRead 36 = .ok (.getfield 10, 3) := by decide +kernel
theorem dX6_snapshotRead_39 : decode cX6_snapshotRead 39 = .ok (.invokevirtual 53, 3) := by decide +kernel
theorem dX6_snapshotRead_42 : decode cX6_snapshotRead 42 = .ok (.aload_n 0, 1) := by decide +kernel
theorem dX6_snapshotRead_43 : decode cX6_snapshotRead 43 = .ok (.getfield 10, 3) := by decide +kernel
theorem dX6_snapshotRead_46 : decode cX6_snapshotRead 46 = .ok (.aload_n 0, 1) := by decide +kernel
theorem dX6_snapshotRead_47 : decode cX6_snapshotRead 47 = .ok (.getfield 10, 3) := by decide +kernel
theorem dX6_snapshotRead_50 : decode cX6_snapshotRead 50 = .ok (.getfield 132, 3) := by decide +kernel
theorem dX6_snapshotRead_53 : decode cX6_snapshotRead 53 = .ok (.iload_n 2, 1) := by decide +kernel
theorem dX6_snapshotRead_54 : decode cX6_snapshotRead 54 = .ok (.invokestatic 135, 3) := by decide +kernel
theorem dX6_snapshotRead_57 : decode cX6_snapshotRead 57 = .ok (.putfield 132, 3) := by decide +kernel
theorem dX6_snapshotRead_60 : decode cX6_snapshotRead 60 = .ok (.aload_n 0, 1) := by decide +kernel
theorem dX6_snapshotRead_61 : decode cX6_snapshotRead 61 = .ok (.getfield 10, 3) := by decide +kernel
theorem dX6_snapshotRead_64 : decode cX6_snapshotRead 64 = .ok (.getfield 140, 3) := by decide +kernel
theorem dX6_snapshotRead_67 : decode cX6_snapshotRead 67 = .ok (.iload_n 1, 1) := by decide +kernel
theorem dX6_snapshotRead_68 : decode cX6_snapshotRead 68 = .ok (.iload_n 2, 1) := by decide +kernel
theorem dX6_snapshotRead_69 : decode cX6_snapshotRead 69 = .ok (.invokevirtual 144, 3) := by decide +kernel
theorem dX6_snapshotRead_72 : decode cX6_snapshotRead 72 = .ok (.ireturn, 1) := by decide +kernel
set_option maxRecDepth 20000 in
theorem ggX6_appendText_X6_requireRange : GoodIn wsX6_appendText wsX6_requireRange := goodIn_ca (goodIn_r _ [9, 10, 11] (by decide +kernel) (by decide +kernel)) (goodIn_sub (fun _ h => List.mem_cons_of_mem _ (List.mem_append_right _ h)) (by decide +kernel))
set_option maxRecDepth 20000 in
theorem gX6_appendText_X6_requireRange : GoodIn wsX6_appendText (wsV RX6 74 RX6 yX6_requireRange wsX6_requireRange) := goodIn_app (goodIn_of _ (by decide +kernel)) ggX6_appendText_X6_requireRange
set_option maxRecDepth 20000 in
theorem ggX6_appendText_X3_isFull : GoodIn wsX6_appendText wsX3_isFull := goodIn_r _ [16, 17, 28, 29, 30, 31, 32] (by decide +kernel) (by decide +kernel)
set_option maxRecDepth 20000 in
theorem gX6_appendText_X3_isFull : GoodIn wsX6_appendText (wsV RX6 149 RX3 yX3_isFull wsX3_isFull) := goodIn_app (goodIn_of _ (by decide +kernel)) ggX6_appendText_X3_isFull
set_option maxRecDepth 20000 in
theorem ggX6_appendText_X3_append : GoodIn wsX6_appendText wsX3_append := goodIn_r _ [21, 22, 17, 28, 29, 30, 31, 32] (by decide +kernel) (by decide +kernel)
set_option maxRecDepth 20000 in
theorem gX6_appendText_X3_append : GoodIn wsX6_appendText (wsV RX6 154 RX3 yX3_append wsX3_append) := goodIn_app (goodIn_of _ (by decide +kernel)) ggX6_appendText_X3_append
theorem dX6_appendText_0 : decode cX6_appendText 0 = .ok (.aload_n 0, 1) := by decide +kernel
theorem dX6_appendText_1 : decode cX6_appendText 1 = .ok (.iload_n 1, 1) := by decide +kernel
theorem dX6_appendText_2 : decode cX6_appendText 2 = .ok (.bipush 32, 2) := by decide +kernel
theorem dX6_appendText_4 : decode cX6_appendText 4 = .ok (.bipush 126, 2) := by decide +kernel
theorem dX6_appendText_6 : decode cX6_appendText 6 = .ok (.invokevirtual 74, 3) := by decide +kernel
theorem dX6_appendText_9 : decode cX6_appendText 9 = .ok (.aload_n 0, 1) := by decide +kernel
theorem dX6_appendText_10 : decode cX6_appendText 10 = .ok (.getfield 34, 3) := by decide +kernel
theorem dX6_appendText_13 : decode cX6_appendText 13 = .ok (.invokevirtual 149, 3) := by decide +kernel
theorem dX6_appendText_16 : decode cX6_appendText 16 = .ok (.ifCond .eq 13, 3) := by decide +kernel
theorem dX6_appendText_19 : decode cX6_appendText 19 = .ok (.new 46, 3) := by decide +kernel
theorem dX6_appendText_22 : decode cX6_appendText 22 = .ok (.dup, 1) := by decide +kernel
theorem dX6_appendText_23 : decode cX6_appendText 23 = .ok (.ldc 152, 2) := by decide +kernel
theorem dX6_appendText_25 : decode cX6_appendText 25 = .ok (.invokespecial 50, 3) := by decide +kernel
theorem dX6_appendText_28 : decode cX6_appendText 28 = .ok (.athrow, 1) := by decide +kernel
theorem dX6_appendText_29 : decode cX6_appendText 29 = .ok (.aload_n 0, 1) := by decide +kernel
theorem dX6_appendText_30 : decode cX6_appendText 30 = .ok (.getfield 34, 3) := by decide +kernel
theorem dX6_appendText_33 : decode cX6_appendText 33 = .ok (.iload_n 1, 1) := by decide +kernel
theorem dX6_appendText_34 : decode cX6_appendText 34 = .ok (.i2c, 1) := by decide +kernel
theorem dX6_appendText_35 : decode cX6_appendText 35 = .ok (.invokevirtual 154, 3) := by decide +kernel
theorem dX6_appendText_38 : decode cX6_appendText 38 = .ok (.aload_n 0, 1) := by decide +kernel
theorem dX6_appendText_39 : decode cX6_appendText 39 = .ok (.getfield 34, 3) := by decide +kernel
theorem dX6_appendText_42 : decode cX6_appendText 42 = .ok (.getfield 158, 3) := by decide +kernel
theorem dX6_appendText_45 : decode cX6_appendText 45 = .ok (.ireturn, 1) := by decide +kernel
theorem dX6_clearText_0 : decode cX6_clearText 0 = .ok (.aload_n 0, 1) := by decide +kernel
theorem dX6_clearText_1 : decode cX6_clearText 1 = .ok (.getfield 34, 3) := by decide +kernel
theorem dX6_clearText_4 : decode cX6_clearText 4 = .ok (.getfield 158, 3) := by decide +kernel
theorem dX6_clearText_7 : decode cX6_clearText 7 = .ok (.istore_n 1, 1) := by decide +kernel
theorem dX6_clearText_8 : decode cX6_clearText 8 = .ok (.aload_n 0, 1) := by decide +kernel
theorem dX6_clearText_9 : decode cX6_clearText 9 = .ok (.getfield 34, 3) := by decide +kernel
theorem dX6_clearText_12 : decode cX6_clearText 12 = .ok (.iconst 0, 1) := by decide +kernel
theorem dX6_clearText_13 : decode cX6_clearText 13 = .ok (.putfield 158, 3) := by decide +kernel
theorem dX6_clearText_16 : decode cX6_clearText 16 = .ok (.iload_n 1, 1) := by decide +kernel
theorem dX6_clearText_17 : decode cX6_clearText 17 = .ok (.ireturn, 1) := by decide +kernel
set_option maxRecDepth 20000 in
theorem ggX6_errorPosition_X3_findError : GoodIn wsX6_errorPosition wsX3_findError := goodIn_r _ [6, 7, 8, 9, 10, 11, 5, 12, 13, 14, 15, 16, 17, 18, 19, 20, 21, 22, 23, 24, 25, 26, 27, 28, 29, 30, 31, 32, 33, 34, 35, 36, 37, 38, 39, 40, 41, 42, 43, 44, 45, 46, 47, 48, 49, 50, 51, 52, 53, 54, 55, 56, 57, 58, 59, 60, 61, 62, 63, 64, 65, 66, 67, 68, 69, 70, 71, 72, 73, 74, 75, 76, 77, 78, 79, 80, 81, 82, 83, 84, 85, 86, 87, 88, 89, 90, 91, 92, 93, 94, 95, 96, 97, 98, 99, 100, 101, 102, 103, 104, 105, 106, 107, 108, 109, 110, 111, 112, 113, 114, 115, 116, 117, 118, 119, 120, 121, 122, 123, 124, 125, 126, 127, 128, 129, 130, 131, 132, 138, 139, 140, 141, 142] (by decide +kernel) (by decide +kernel)
set_option maxRecDepth 20000 in
theorem gX6_errorPosition_X3_findError : GoodIn wsX6_errorPosition (wsV RX6 161 RX3 yX3_findError wsX3_findError) := goodIn_app (goodIn_of _ (by decide +kernel)) ggX6_errorPosition_X3_findError
theorem dX6_errorPosition_0 : decode cX6_errorPosition 0 = .ok (.aload_n 0, 1) := by decide +kernel
theorem dX6_errorPosition_1 : decode cX6_errorPosition 1 = .ok (.getfield 34, 3) := by decide +kernel
theorem dX6_errorPosition_4 : decode cX6_errorPosition 4 = .ok (.invokevirtual 161, 3) := by decide +kernel
theorem dX6_errorPosition_7 : decode cX6_errorPosition 7 = .ok (.ireturn, 1) := by decide +kernel
set_option maxRecDepth 20000 in
theorem ggX6_runText_X3_findError : GoodIn wsX6_runText wsX3_findError := goodIn_r _ [11, 12, 13, 14, 15, 16, 10, 17, 18, 19, 20, 21, 22, 23, 24, 25, 26, 27, 28, 29, 30, 31, 32, 33, 34, 35, 36, 37, 38, 39, 40, 41, 42, 43, 44, 45, 46, 47, 48, 49, 50, 51, 52, 53, 54, 55, 56, 57, 58, 59, 60, 61, 62, 63, 64, 65, 66, 67, 68, 69, 70, 71, 72, 73, 74, 75, 76, 77, 78, 79, 80, 81, 82, 83, 84, 85, 86, 87, 88, 89, 90, 91, 92, 93, 94, 95, 96, 97, 98, 99, 100, 101, 102, 103, 104, 105, 106, 107, 108, 109, 110, 111, 112, 113, 114, 115, 116, 117, 118, 119, 120, 121, 122, 123, 124, 125, 126, 127, 128, 129, 130, 131, 132, 133, 134, 135, 136, 137, 391, 392, 393, 394, 395] (by decide +kernel) (by decide +kernel)
set_option maxRecDepth 20000 in
theorem gX6_runText_X3_findError : GoodIn wsX6_runText (wsV RX6 161 RX3 yX3_findError wsX3_findError) := goodIn_app (goodIn_of _ (by decide +kernel)) ggX6_runText_X3_findError
set_option maxRecDepth 20000 in
theorem ggX6_runText_X0_push : GoodIn wsX6_runText wsX0_push := goodIn_r _ [142, 143, 144, 145, 146, 57, 54, 58, 147, 148, 149, 150, 151, 152, 153, 154, 155, 156, 157, 158, 159, 160, 161, 162, 163, 164, 165, 166, 167, 168, 169, 170, 171, 172, 173, 174, 175, 176, 177, 178, 179, 180, 181, 182, 183, 184, 185, 186, 187, 188, 189, 190, 191, 192, 193, 194, 195, 396, 397, 398, 399, 400, 401, 402, 403, 404, 405, 406, 407, 408, 409, 410, 411, 412, 413, 414, 415, 416, 417, 418, 419, 420, 421, 422] (by decide +kernel) (by decide +kernel)
set_option maxRecDepth 20000 in
theorem gX6_runText_X0_push : GoodIn wsX6_runText (wsV RX6 53 RX0 yX0_push wsX0_push) := goodIn_app (goodIn_of _ (by decide +kernel)) ggX6_runText_X0_push
set_option maxRecDepth 20000 in
theorem ggX6_runText_X3_rewind : GoodIn wsX6_runText wsX3_rewind := goodIn_r _ [17, 13, 391, 392, 393, 394, 395] (by decide +kernel) (by decide +kernel)
set_option maxRecDepth 20000 in
theorem gX6_runText_X3_rewind : GoodIn wsX6_runText (wsV RX6 166 RX3 yX3_rewind wsX3_rewind) := goodIn_app (goodIn_of _ (by decide +kernel)) ggX6_runText_X3_rewind
set_option maxRecDepth 20000 in
theorem ggX6_runText_X3_readNextCommand : GoodIn wsX6_runText wsX3_readNextCommand := goodIn_r _ [200, 126, 127, 128, 10, 129, 13, 12, 22, 18, 19, 20, 21, 23, 24, 25, 26, 27, 28, 29, 30, 31, 32, 33, 34, 35, 36, 37, 38, 39, 40, 41, 42, 43, 44, 45, 46, 47, 48, 49, 50, 51, 52, 53, 54, 55, 56, 57, 58, 59, 60, 61, 62, 63, 64, 65, 66, 67, 68, 69, 70, 71, 72, 73, 74, 75, 76, 77, 78, 79, 80, 81, 82, 83, 84, 85, 86, 87, 88, 89, 90, 91, 92, 93, 94, 95, 96, 97, 98, 99, 100, 101, 102, 103, 104, 105, 106, 107, 108, 109, 110, 111, 112, 113, 114, 115, 116, 117, 118, 119, 120, 121, 122, 123, 124, 125, 130, 131, 132, 133, 134, 135, 136, 137, 391, 392, 393, 394, 395] (by decide +kernel) (by decide +kernel)
set_option maxRecDepth 20000 in
theorem gX6_runText_X3_readNextCommand : GoodIn wsX6_runText (wsV RX6 169 RX3 yX3_readNextCommand wsX3_readNextCommand) := goodIn_app (goodIn_of _ (by decide +kernel)) ggX6_runText_X3_readNextCommand
set_option maxRecDepth 20000 in
theorem ggX6_runText_X6_executeCommand : GoodIn wsX6_runText wsX6_executeCommand := goodIn_r _ [205, 3, 206, 207, 5, 208, 209, 210, 204, 211, 212, 213, 214, 215, 150, 216, 157, 217, 218, 219, 220, 221, 152, 222, 223, 224, 225, 185, 226, 187, 190, 227, 228, 229, 230, 231, 232, 233, 234, 188, 191, 192, 193, 235, 236, 237, 238, 194, 239, 240, 241, 242, 195, 243, 244, 245, 246, 156, 247, 248, 249, 250, 251, 252, 253, 254, 255, 256, 257, 258, 259, 260, 261, 173, 262, 175, 263, 264, 265, 266, 267, 268, 269, 270, 271, 181, 272, 273, 274, 275, 276, 277, 278, 279, 280, 281, 282, 283, 284, 285, 286, 287, 53, 54, 55, 288, 289, 290, 291, 292, 293, 294, 295, 296, 297, 298, 299, 300, 301, 302, 303, 304, 305, 306, 307, 308, 155, 309, 153, 310, 311, 312, 161, 313, 314, 315, 316, 317, 163, 165, 164, 318, 319, 320, 321, 322, 323, 324, 325, 166, 167, 168, 326, 327, 328, 329, 330, 176, 331, 332, 333, 334, 335, 336, 337, 338, 339, 340, 341, 342, 343, 344, 345, 346, 347, 348, 349, 350, 154, 351, 352, 353, 354, 355, 356, 357, 358, 359, 360, 361, 362, 363, 364, 365, 366, 367, 368, 369, 370, 371, 372, 373, 374, 375, 376, 377, 378, 379, 380, 381, 382, 383, 384, 385, 386, 387, 388, 389, 390, 391, 392, 393, 394, 395, 399, 400, 401, 402, 403, 404, 415, 416, 417, 418, 419, 420, 421, 422, 412, 413, 414, 405, 406, 407, 408, 409, 410, 411] (by decide +kernel) (by decide +kernel)
set_option maxRecDepth 20000 in
theorem gX6_runText_X6_executeCommand : GoodIn wsX6_runText (wsV RX6 172 RX6 yX6_executeCommand wsX6_executeCommand) := goodIn_app (goodIn_of _ (by decide +kernel)) ggX6_runText_X6_executeCommand
theorem dX6_runText_0 : decode cX6_runText 0 = .ok (.aload_n 0, 1) := by decide +kernel
theorem dX6_runText_1 : decode cX6_runText 1 = .ok (.getfield 34, 3) := by decide +kernel
theorem dX6_runText_4 : decode cX6_runText 4 = .ok (.invokevirtual 161, 3) := by decide +kernel
theorem dX6_runText_7 : decode cX6_runText 7 = .ok (.iconst (-1), 1) := by decide +kernel
theorem dX6_runText_8 : decode cX6_runText 8 = .ok (.if_icmp .eq 13, 3) := by decide +kernel
theorem dX6_runText_11 : decode cX6_runText 11 = .ok (.new 46, 3) := by decide +kernel
theorem dX6_runText_14 : decode cX6_runText 14 = .ok (.dup, 1) := by decide +kernel
theorem dX6_runText_15 : decode cX6_runText 15 = .ok (.ldc 164, 2) := by decide +kernel
theorem dX6_runText_17 : decode cX6_runText 17 = .ok (.invokespecial 50, 3) := by decide +kernel
theorem dX6_runText_20 : decode cX6_runText 20 = .ok (.athrow, 1) := by decide +kernel
theorem dX6_runText_21 : decode cX6_runText 21 = .ok (.aload_n 0, 1) := by decide +kernel
theorem dX6_runText_22 : decode cX6_runText 22 = .ok (.getfield 19, 3) := by decide +kernel
theorem dX6_runText_25 : decode cX6_runText 25 = .ok (.aload_n 0, 1) := by decide +kernel
theorem dX6_runText_26 : decode cX6_runText 26 = .ok (.getfield 10, 3) := by decide +kernel
theorem dX6_runText_29 : decode cX6_runText 29 = .ok (.invokevirtual 53, 3) := by decide +kernel
theorem dX6_runText_32 : decode cX6_runText 32 = .ok (.aload_n 0, 1) := by decide +kernel
theorem dX6_runText_33 : decode cX6_runText 33 = .ok (.getfield 34, 3) := by decide +kernel
theorem dX6_runText_36 : decode cX6_runText 36 = .ok (.invokevirtual 166, 3) := by decide +kernel
theorem dX6_runText_39 : decode cX6_runText 39 = .ok (.iconst 0, 1) := by decide +kernel
theorem dX6_runText_40 : decode cX6_runText 40 = .ok (.istore_n 1, 1) := by decide +kernel
theorem dX6_runText_41 : decode cX6_runText 41 = .ok (.iload_n 1, 1) := by decide +kernel
theorem dX6_runText_42 : decode cX6_runText 42 = .ok (.aload_n 0, 1) := by decide +kernel
theorem dX6_runText_43 : decode cX6_runText 43 = .ok (.getfield 34, 3) := by decide +kernel
theorem dX6_runText_46 : decode cX6_runText 46 = .ok (.getfield 158, 3) := by decide +kernel
theorem dX6_runText_49 : decode cX6_runText 49 = .ok (.if_icmp .ge 26, 3) := by decide +kernel
theorem dX6_runText_52 : decode cX6_runText 52 = .ok (.aload_n 0, 1) := by decide +kernel
theorem dX6_runText_53 : decode cX6_runText 53 = .ok (.getfield 34, 3) := by decide +kernel
theorem dX6_runText_56 : decode cX6_runText 56 = .ok (.invokevirtual 169, 3) := by decide +kernel
theorem dX6_runText_59 : decode cX6_runText 59 = .ok (.ifCond .eq 16, 3) := by decide +kernel
theorem dX6_runText_62 : decode cX6_runText 62 = .ok (.aload_n 0, 1) := by decide +kernel
theorem dX6_runText_63 : decode cX6_runText 63 = .ok (.invokevirtual 172, 3) := by decide +kernel
theorem dX6_runText_66 : decode cX6_runText 66 = .ok (.ifCond .eq 9, 3) := by decide +kernel
theorem dX6_runText_69 : decode cX6_runText 69 = .ok (.iinc 1 1, 3) := by decide +kernel
theorem dX6_runText_72 : decode cX6_runText 72 = .ok (.goto (-31), 3) := by decide +kernel
theorem dX6_runText_75 : decode cX6_runText 75 = .ok (.iload_n 1, 1) := by decide +kernel
theorem dX6_runText_76 : decode cX6_runText 76 = .ok (.ireturn, 1) := by decide +kernel
set_option maxRecDepth 20000 in
theorem ggX6_executeCommand_X6_canExecute : GoodIn wsX6_executeCommand wsX6_canExecute := goodIn_r _ [9, 1, 3, 4, 10, 11, 12, 13, 14, 15, 16, 17, 18, 19, 20, 21, 22, 23, 24, 25, 26, 27, 28, 29, 30, 214, 215, 216, 217, 218, 219, 220, 221, 222, 223, 224, 225, 226, 227, 228, 229, 230, 231, 232, 233, 234, 235, 236, 237] (by decide +kernel) (by decide +kernel)
set_option maxRecDepth 20000 in
theorem gX6_executeCommand_X6_canExecute : GoodIn wsX6_executeCommand (wsV RX6 179 RX6 yX6_canExecute wsX6_canExecute) := goodIn_app (goodIn_of _ (by decide +kernel)) ggX6_executeCommand_X6_canExecute
set_option maxRecDepth 20000 in
theorem ggX6_executeCommand_X2_beginAt : GoodIn wsX6_executeCommand wsX2_beginAt := goodIn_r _ [34, 16, 35, 36, 37, 27, 38, 29, 39, 30, 40, 41, 42, 43, 44, 45, 46, 47, 48, 49, 50, 51, 52, 224, 225, 226, 227, 228, 229, 230, 231, 232, 233, 234, 235, 236, 237] (by decide +kernel) (by decide +kernel)
set_option maxRecDepth 20000 in
theorem gX6_executeCommand_X2_beginAt : GoodIn wsX6_executeCommand (wsV RX6 57 RX2 yX2_beginAt wsX2_beginAt) := goodIn_app (goodIn_of _ (by decide +kernel)) ggX6_executeCommand_X2_beginAt
set_option maxRecDepth 20000 in
theorem ggX6_executeCommand_X2_readKey : GoodIn wsX6_executeCommand wsX2_readKey := goodIn_r _ [56, 16, 57, 58, 59, 60, 27, 61, 47, 62, 63, 64, 65, 66, 67, 68, 69, 52, 70, 71, 72, 73, 74, 75, 76, 49, 50, 51, 77, 78, 79, 80, 81, 82, 83, 84, 85, 224, 225, 226, 227, 228, 229, 230, 231, 232, 233, 234, 235, 236, 237, 238, 239, 240] (by decide +kernel) (by decide +kernel)
set_option maxRecDepth 20000 in
theorem gX6_executeCommand_X2_readKey : GoodIn wsX6_executeCommand (wsV RX6 70 RX2 yX2_readKey wsX2_readKey) := goodIn_app (goodIn_of _ (by decide +kernel)) ggX6_executeCommand_X2_readKey
set_option maxRecDepth 20000 in
theorem ggX6_executeCommand_X2_writeKey : GoodIn wsX6_executeCommand wsX2_writeKey := goodIn_r _ [89, 16, 90, 44, 45, 27, 46, 47, 91, 92, 93, 94, 95, 59, 60, 61, 224, 225, 226, 227, 228, 229, 230, 231, 232, 233, 234, 235, 236, 237] (by decide +kernel) (by decide +kernel)
set_option maxRecDepth 20000 in
theorem gX6_executeCommand_X2_writeKey : GoodIn wsX6_executeCommand (wsV RX6 78 RX2 yX2_writeKey wsX2_writeKey) := goodIn_app (goodIn_of _ (by decide +kernel)) ggX6_executeCommand_X2_writeKey
set_option maxRecDepth 20000 in
theorem ggX6_executeCommand_X2_commitOutcome : GoodIn wsX6_executeCommand wsX2_commitOutcome := goodIn_r _ [99, 16, 100, 57, 101, 102, 103, 104, 105, 106, 107, 14, 108, 66, 67, 68, 27, 69, 52, 77, 78, 79, 80, 70, 71, 72, 73, 74, 75, 109, 110, 111, 112, 29, 30, 113, 114, 115, 116, 95, 59, 60, 61, 47, 117, 118, 119, 120, 121, 122, 123, 124, 125, 126, 127, 128, 22, 129, 130, 131, 132, 133, 134, 135, 136, 137, 138, 139, 140, 141, 142, 143, 144, 145, 146, 147, 148, 149, 150, 151, 152, 153, 154, 155, 156, 157, 58, 158, 159, 160, 161, 40, 162, 224, 225, 226, 227, 228, 229, 230, 231, 232, 233, 234, 235, 236, 237, 238, 239, 240, 241, 242, 243, 244, 245, 246, 247] (by decide +kernel) (by decide +kernel)
set_option maxRecDepth 20000 in
theorem gX6_executeCommand_X2_commitOutcome : GoodIn wsX6_executeCommand (wsV RX6 82 RX2 yX2_commitOutcome wsX2_commitOutcome) := goodIn_app (goodIn_of _ (by decide +kernel)) ggX6_executeCommand_X2_commitOutcome
set_option maxRecDepth 20000 in
theorem ggX6_executeCommand_X2_carryOut : GoodIn wsX6_executeCommand wsX2_carryOut := goodIn_r _ [166, 167, 168, 169, 14, 170, 16, 171, 91, 92, 93, 27, 94, 95, 59, 60, 61, 47, 172, 173, 174, 175, 100, 176, 177, 22, 126, 127, 178, 179, 180, 181, 132, 182, 134, 135, 136, 137, 138, 139, 140, 141, 142, 143, 144, 145, 146, 147, 148, 149, 150, 151, 224, 225, 226, 227, 228, 229, 230, 231, 232, 233, 234, 235, 236, 237, 241, 242, 243, 244, 245, 246, 247] (by decide +kernel) (by decide +kernel)
set_option maxRecDepth 20000 in
theorem gX6_executeCommand_X2_carryOut : GoodIn wsX6_executeCommand (wsV RX6 85 RX2 yX2_carryOut wsX2_carryOut) := goodIn_app (goodIn_of _ (by decide +kernel)) ggX6_executeCommand_X2_carryOut
set_option maxRecDepth 20000 in
theorem ggX6_executeCommand_X2_makeAborted : GoodIn wsX6_executeCommand wsX2_makeAborted := goodIn_r _ [170, 16, 171, 91, 92, 93, 27, 94, 95, 59, 60, 61, 47, 224, 225, 226, 227, 228, 229, 230, 231, 232, 233, 234, 235, 236, 237] (by decide +kernel) (by decide +kernel)
set_option maxRecDepth 20000 in
theorem gX6_executeCommand_X2_makeAborted : GoodIn wsX6_executeCommand (wsV RX6 89 RX2 yX2_makeAborted wsX2_makeAborted) := goodIn_app (goodIn_of _ (by decide +kernel)) ggX6_executeCommand_X2_makeAborted
set_option maxRecDepth 20000 in
theorem ggX6_executeCommand_X2_advanceBy : GoodIn wsX6_executeCommand wsX2_advanceBy := goodIn_r _ [187, 16, 17, 171, 22, 188, 189, 190, 14, 191, 126, 100, 176, 192, 193, 194, 132, 195, 134, 135, 136, 137, 138, 139, 140, 141, 142, 143, 144, 145, 146, 147, 148, 149, 150, 151, 196, 197, 198, 199, 200, 57, 178, 58, 59, 60, 27, 61, 47, 62, 63, 64, 65, 201, 202, 203, 73, 204, 75, 157, 85, 179, 180, 181, 182, 224, 225, 226, 227, 228, 229, 230, 231, 232, 233, 234, 235, 236, 237, 241, 242, 243, 244, 245, 246, 247, 238, 239, 240] (by decide +kernel) (by decide +kernel)
set_option maxRecDepth 20000 in
theorem gX6_executeCommand_X2_advanceBy : GoodIn wsX6_executeCommand (wsV RX6 98 RX2 yX2_advanceBy wsX2_advanceBy) := goodIn_app (goodIn_of _ (by decide +kernel)) ggX6_executeCommand_X2_advanceBy
set_option maxRecDepth 20000 in
theorem ggX6_executeCommand_X2_synchronizeClock : GoodIn wsX6_executeCommand wsX2_synchronizeClock := goodIn_r _ [208, 126, 22, 209, 135, 136, 132, 137, 138, 139, 140, 141, 142, 143, 144, 210, 211, 212, 213, 151, 224, 225, 226, 227, 228, 229, 241, 242, 243, 244, 245, 246, 247] (by decide +kernel) (by decide +kernel)
set_option maxRecDepth 20000 in
theorem gX6_executeCommand_X2_synchronizeClock : GoodIn wsX6_executeCommand (wsV RX6 101 RX2 yX2_synchronizeClock wsX2_synchronizeClock) := goodIn_app (goodIn_of _ (by decide +kernel)) ggX6_executeCommand_X2_synchronizeClock
theorem dX6_executeCommand_0 : decode cX6_executeCommand 0 = .ok (.aload_n 0, 1) := by decide +kernel
theorem dX6_executeCommand_1 : decode cX6_executeCommand 1 = .ok (.getfield 34, 3) := by decide +kernel
theorem dX6_executeCommand_4 : decode cX6_executeCommand 4 = .ok (.getfield 175, 3) := by decide +kernel
theorem dX6_executeCommand_7 : decode cX6_executeCommand 7 = .ok (.iconst 0, 1) := by decide +kernel
theorem dX6_executeCommand_8 : decode cX6_executeCommand 8 = .ok (.iaload, 1) := by decide +kernel
theorem dX6_executeCommand_9 : decode cX6_executeCommand 9 = .ok (.istore_n 1, 1) := by decide +kernel
theorem dX6_executeCommand_10 : decode cX6_executeCommand 10 = .ok (.aload_n 0, 1) := by decide +kernel
theorem dX6_executeCommand_11 : decode cX6_executeCommand 11 = .ok (.iload_n 1, 1) := by decide +kernel
theorem dX6_executeCommand_12 : decode cX6_executeCommand 12 = .ok (.invokevirtual 179, 3) := by decide +kernel
theorem dX6_executeCommand_15 : decode cX6_executeCommand 15 = .ok (.ifCond .ne 5, 3) := by decide +kernel
theorem dX6_executeCommand_18 : decode cX6_executeCommand 18 = .ok (.iconst 0, 1) := by decide +kernel
theorem dX6_executeCommand_19 : decode cX6_executeCommand 19 = .ok (.ireturn, 1) := by decide +kernel
theorem dX6_executeCommand_20 : decode cX6_executeCommand 20 = .ok (.aload_n 0, 1) := by decide +kernel
theorem dX6_executeCommand_21 : decode cX6_executeCommand 21 = .ok (.getfield 34, 3) := by decide +kernel
theorem dX6_executeCommand_24 : decode cX6_executeCommand 24 = .ok (.getfield 182, 3) := by decide +kernel
theorem dX6_executeCommand_27 : decode cX6_executeCommand 27 = .ok (.lookupswitch 163 #[(97, 139), (98, 57), (99, 120), (114, 69), (116, 151), (119, 90)], 57) := by decide +kernel
theorem dX6_executeCommand_84 : decode cX6_executeCommand 84 = .ok (.aload_n 0, 1) := by decide +kernel
theorem dX6_executeCommand_85 : decode cX6_executeCommand 85 = .ok (.getfield 10, 3) := by decide +kernel
theorem dX6_executeCommand_88 : decode cX6_executeCommand 88 = .ok (.iload_n 1, 1) := by decide +kernel
theorem dX6_executeCommand_89 : decode cX6_executeCommand 89 = .ok (.invokevirtual 57, 3) := by decide +kernel
theorem dX6_executeCommand_92 : decode cX6_executeCommand 92 = .ok (.pop, 1) := by decide +kernel
theorem dX6_executeCommand_93 : decode cX6_executeCommand 93 = .ok (.goto 115, 3) := by decide +kernel
theorem dX6_executeCommand_96 : decode cX6_executeCommand 96 = .ok (.aload_n 0, 1) := by decide +kernel
theorem dX6_executeCommand_97 : decode cX6_executeCommand 97 = .ok (.getfield 10, 3) := by decide +kernel
theorem dX6_executeCommand_100 : decode cX6_executeCommand 100 = .ok (.iload_n 1, 1) := by decide +kernel
theorem dX6_executeCommand_101 : decode cX6_executeCommand 101 = .ok (.aload_n 0, 1) := by decide +kernel
theorem dX6_executeCommand_102 : decode cX6_executeCommand 102 = .ok (.getfield 34, 3) := by decide +kernel
theorem dX6_executeCommand_105 : decode cX6_executeCommand 105 = .ok (.getfield 175, 3) := by decide +kernel
theorem dX6_executeCommand_108 : decode cX6_executeCommand 108 = .ok (.iconst 1, 1) := by decide +kernel
theorem dX6_executeCommand_109 : decode cX6_executeCommand 109 = .ok (.iaload, 1) := by decide +kernel
theorem dX6_executeCommand_110 : decode cX6_executeCommand 110 = .ok (.invokevirtual 70, 3) := by decide +kernel
theorem dX6_executeCommand_113 : decode cX6_executeCommand 113 = .ok (.pop, 1) := by decide +kernel
theorem dX6_executeCommand_114 : decode cX6_executeCommand 114 = .ok (.goto 94, 3) := by decide +kernel
theorem dX6_executeCommand_117 : decode cX6_executeCommand 117 = .ok (.aload_n 0, 1) := by decide +kernel
theorem dX6_executeCommand_118 : decode cX6_executeCommand 118 = .ok (.getfield 10, 3) := by decide +kernel
theorem dX6_executeCommand_121 : decode cX6_executeCommand 121 = .ok (.iload_n 1, 1) := by decide +kernel
theorem dX6_executeCommand_122 : decode cX6_executeCommand 122 = .ok (.aload_n 0, 1) := by decide +kernel
theorem dX6_executeCommand_123 : decode cX6_executeCommand 123 = .ok (.getfield 34, 3) := by decide +kernel
theorem dX6_executeCommand_126 : decode cX6_executeCommand 126 = .ok (.getfield 175, 3) := by decide +kernel
theorem dX6_executeCommand_129 : decode cX6_executeCommand 129 = .ok (.iconst 1, 1) := by decide +kernel
theorem dX6_executeCommand_130 : decode cX6_executeCommand 130 = .ok (.iaload, 1) := by decide +kernel
theorem dX6_executeCommand_131 : decode cX6_executeCommand 131 = .ok (.aload_n 0, 1) := by decide +kernel
theorem dX6_executeCommand_132 : decode cX6_executeCommand 132 = .ok (.getfield 34, 3) := by decide +kernel
theorem dX6_executeCommand_135 : decode cX6_executeCommand 135 = .ok (.getfield 175, 3) := by decide +kernel
theorem dX6_executeCommand_138 : decode cX6_executeCommand 138 = .ok (.iconst 2, 1) := by decide +kernel
theorem dX6_executeCommand_139 : decode cX6_executeCommand 139 = .ok (.iaload, 1) := by decide +kernel
theorem dX6_executeCommand_140 : decode cX6_executeCommand 140 = .ok (.invokevirtual 78, 3) := by decide +kernel
theorem dX6_executeCommand_143 : decode cX6_executeCommand 143 = .ok (.pop, 1) := by decide +kernel
theorem dX6_executeCommand_144 : decode cX6_executeCommand 144 = .ok (.goto 64, 3) := by decide +kernel
theorem dX6_executeCommand_147 : decode cX6_executeCommand 147 = .ok (.aload_n 0, 1) := by decide +kernel
theorem dX6_executeCommand_148 : decode cX6_executeCommand 148 = .ok (.getfield 10, 3) := by decide +kernel
theorem dX6_executeCommand_151 : decode cX6_executeCommand 151 = .ok (.aload_n 0, 1) := by decide +kernel
theorem dX6_executeCommand_152 : decode cX6_executeCommand 152 = .ok (.getfield 10, 3) := by decide +kernel
theorem dX6_executeCommand_155 : decode cX6_executeCommand 155 = .ok (.iload_n 1, 1) := by decide +kernel
theorem dX6_executeCommand_156 : decode cX6_executeCommand 156 = .ok (.invokevirtual 82, 3) := by decide +kernel
theorem dX6_executeCommand_159 : decode cX6_executeCommand 159 = .ok (.iload_n 1, 1) := by decide +kernel
theorem dX6_executeCommand_160 : decode cX6_executeCommand 160 = .ok (.invokevirtual 85, 3) := by decide +kernel
theorem dX6_executeCommand_163 : decode cX6_executeCommand 163 = .ok (.goto 45, 3) := by decide +kernel
theorem dX6_executeCommand_166 : decode cX6_executeCommand 166 = .ok (.aload_n 0, 1) := by decide +kernel
theorem dX6_executeCommand_167 : decode cX6_executeCommand 167 = .ok (.getfield 10, 3) := by decide +kernel
theorem dX6_executeCommand_170 : decode cX6_executeCommand 170 = .ok (.iload_n 1, 1) := by decide +kernel
theorem dX6_executeCommand_171 : decode cX6_executeCommand 171 = .ok (.invokevirtual 89, 3) := by decide +kernel
theorem dX6_executeCommand_174 : decode cX6_executeCommand 174 = .ok (.pop, 1) := by decide +kernel
theorem dX6_executeCommand_175 : decode cX6_executeCommand 175 = .ok (.goto 33, 3) := by decide +kernel
theorem dX6_executeCommand_178 : decode cX6_executeCommand 178 = .ok (.aload_n 0, 1) := by decide +kernel
theorem dX6_executeCommand_179 : decode cX6_executeCommand 179 = .ok (.getfield 10, 3) := by decide +kernel
theorem dX6_executeCommand_182 : decode cX6_executeCommand 182 = .ok (.iload_n 1, 1) := by decide +kernel
theorem dX6_executeCommand_183 : decode cX6_executeCommand 183 = .ok (.invokevirtual 98, 3) := by decide +kernel
theorem dX6_executeCommand_186 : decode cX6_executeCommand 186 = .ok (.pop, 1) := by decide +kernel
theorem dX6_executeCommand_187 : decode cX6_executeCommand 187 = .ok (.goto 21, 3) := by decide +kernel
theorem dX6_executeCommand_190 : decode cX6_executeCommand 190 = .ok (.aload_n 0, 1) := by decide +kernel
theorem dX6_executeCommand_191 : decode cX6_executeCommand 191 = .ok (.getfield 10, 3) := by decide +kernel
theorem dX6_executeCommand_194 : decode cX6_executeCommand 194 = .ok (.iload_n 1, 1) := by decide +kernel
theorem dX6_executeCommand_195 : decode cX6_executeCommand 195 = .ok (.aload_n 0, 1) := by decide +kernel
theorem dX6_executeCommand_196 : decode cX6_executeCommand 196 = .ok (.getfield 34, 3) := by decide +kernel
theorem dX6_executeCommand_199 : decode cX6_executeCommand 199 = .ok (.getfield 175, 3) := by decide +kernel
theorem dX6_executeCommand_202 : decode cX6_executeCommand 202 = .ok (.iconst 1, 1) := by decide +kernel
theorem dX6_executeCommand_203 : decode cX6_executeCommand 203 = .ok (.iaload, 1) := by decide +kernel
theorem dX6_executeCommand_204 : decode cX6_executeCommand 204 = .ok (.invokevirtual 101, 3) := by decide +kernel
theorem dX6_executeCommand_207 : decode cX6_executeCommand 207 = .ok (.pop, 1) := by decide +kernel
theorem dX6_executeCommand_208 : decode cX6_executeCommand 208 = .ok (.iconst 1, 1) := by decide +kernel
theorem dX6_executeCommand_209 : decode cX6_executeCommand 209 = .ok (.ireturn, 1) := by decide +kernel
set_option maxRecDepth 20000 in
theorem ggX6_canExecute_X2_canBegin : GoodIn wsX6_canExecute wsX2_canBegin := goodIn_r _ [9, 10, 11, 35, 36, 37, 38, 39, 40, 41, 42, 43, 44, 45, 46, 47, 48] (by decide +kernel) (by decide +kernel)
set_option maxRecDepth 20000 in
theorem gX6_canExecute_X2_canBegin : GoodIn wsX6_canExecute (wsV RX6 42 RX2 yX2_canBegin wsX2_canBegin) := goodIn_app (goodIn_of _ (by decide +kernel)) ggX6_canExecute_X2_canBegin
set_option maxRecDepth 20000 in
theorem ggX6_canExecute_X2_canAdvance : GoodIn wsX6_canExecute wsX2_canAdvance := goodIn_r _ [15, 16, 17, 35, 36, 37, 38, 39, 40] (by decide +kernel) (by decide +kernel)
set_option maxRecDepth 20000 in
theorem gX6_canExecute_X2_canAdvance : GoodIn wsX6_canExecute (wsV RX6 92 RX2 yX2_canAdvance wsX2_canAdvance) := goodIn_app (goodIn_of _ (by decide +kernel)) ggX6_canExecute_X2_canAdvance
set_option maxRecDepth 20000 in
theorem ggX6_canExecute_X4_isOpen : GoodIn wsX6_canExecute wsX4_isOpen := goodIn_r _ [22, 23, 24, 41, 42, 43, 44, 45, 46, 47, 48] (by decide +kernel) (by decide +kernel)
set_option maxRecDepth 20000 in
theorem gX6_canExecute_X4_isOpen : GoodIn wsX6_canExecute (wsV RX6 189 RX4 yX4_isOpen wsX4_isOpen) := goodIn_app (goodIn_of _ (by decide +kernel)) ggX6_canExecute_X4_isOpen
theorem dX6_canExecute_0 : decode cX6_canExecute 0 = .ok (.aload_n 0, 1) := by decide +kernel
theorem dX6_canExecute_1 : decode cX6_canExecute 1 = .ok (.getfield 34, 3) := by decide +kernel
theorem dX6_canExecute_4 : decode cX6_canExecute 4 = .ok (.getfield 182, 3) := by decide +kernel
theorem dX6_canExecute_7 : decode cX6_canExecute 7 = .ok (.lookupswitch 52 #[(98, 33), (115, 50), (116, 41)], 33) := by decide +kernel
theorem dX6_canExecute_40 : decode cX6_canExecute 40 = .ok (.aload_n 0, 1) := by decide +kernel
theorem dX6_canExecute_41 : decode cX6_canExecute 41 = .ok (.getfield 10, 3) := by decide +kernel
theorem dX6_canExecute_44 : decode cX6_canExecute 44 = .ok (.invokevirtual 42, 3) := by decide +kernel
theorem dX6_canExecute_47 : decode cX6_canExecute 47 = .ok (.ireturn, 1) := by decide +kernel
theorem dX6_canExecute_48 : decode cX6_canExecute 48 = .ok (.aload_n 0, 1) := by decide +kernel
theorem dX6_canExecute_49 : decode cX6_canExecute 49 = .ok (.getfield 10, 3) := by decide +kernel
theorem dX6_canExecute_52 : decode cX6_canExecute 52 = .ok (.iload_n 1, 1) := by decide +kernel
theorem dX6_canExecute_53 : decode cX6_canExecute 53 = .ok (.invokevirtual 92, 3) := by decide +kernel
theorem dX6_canExecute_56 : decode cX6_canExecute 56 = .ok (.ireturn, 1) := by decide +kernel
theorem dX6_canExecute_57 : decode cX6_canExecute 57 = .ok (.iconst 1, 1) := by decide +kernel
theorem dX6_canExecute_58 : decode cX6_canExecute 58 = .ok (.ireturn, 1) := by decide +kernel
theorem dX6_canExecute_59 : decode cX6_canExecute 59 = .ok (.aload_n 0, 1) := by decide +kernel
theorem dX6_canExecute_60 : decode cX6_canExecute 60 = .ok (.getfield 10, 3) := by decide +kernel
theorem dX6_canExecute_63 : decode cX6_canExecute 63 = .ok (.getfield 185, 3) := by decide +kernel
theorem dX6_canExecute_66 : decode cX6_canExecute 66 = .ok (.iload_n 1, 1) := by decide +kernel
theorem dX6_canExecute_67 : decode cX6_canExecute 67 = .ok (.invokevirtual 189, 3) := by decide +kernel
theorem dX6_canExecute_70 : decode cX6_canExecute 70 = .ok (.ireturn, 1) := by decide +kernel
set_option maxRecDepth 20000 in
theorem ggX6_undo_X0_popInto : GoodIn wsX6_undo wsX0_popInto := goodIn_r _ [10, 11, 12, 13, 14, 15, 16, 17, 18, 19, 20, 21, 22, 23, 24, 25, 26, 27, 28, 29, 30, 31, 32, 33, 34, 35, 36, 37, 38, 39, 40, 41, 42, 43, 44, 45, 46, 47, 48, 49, 50, 51, 52, 53, 54, 55, 56, 57, 58, 59, 60, 61, 62, 68, 69, 70, 71, 72, 73, 74, 75, 76, 77, 78, 79, 80, 81, 82, 83, 84, 85, 86, 87, 88, 89, 90, 91, 92, 93, 94] (by decide +kernel) (by decide +kernel)
set_option maxRecDepth 20000 in
theorem gX6_undo_X0_popInto : GoodIn wsX6_undo (wsV RX6 199 RX0 yX0_popInto wsX0_popInto) := goodIn_app (goodIn_of _ (by decide +kernel)) ggX6_undo_X0_popInto
theorem dX6_undo_0 : decode cX6_undo 0 = .ok (.aload_n 0, 1) := by decide +kernel
theorem dX6_undo_1 : decode cX6_undo 1 = .ok (.getfield 19, 3) := by decide +kernel
theorem dX6_undo_4 : decode cX6_undo 4 = .ok (.getfield 194, 3) := by decide +kernel
theorem dX6_undo_7 : decode cX6_undo 7 = .ok (.ifCond .ne 13, 3) := by decide +kernel
theorem dX6_undo_10 : decode cX6_undo 10 = .ok (.new 46, 3) := by decide +kernel
theorem dX6_undo_13 : decode cX6_undo 13 = .ok (.dup, 1) := by decide +kernel
theorem dX6_undo_14 : decode cX6_undo 14 = .ok (.ldc 197, 2) := by decide +kernel
theorem dX6_undo_16 : decode cX6_undo 16 = .ok (.invokespecial 50, 3) := by decide +kernel
theorem dX6_undo_19 : decode cX6_undo 19 = .ok (.athrow, 1) := by decide +kernel
theorem dX6_undo_20 : decode cX6_undo 20 = .ok (.aload_n 0, 1) := by decide +kernel
theorem dX6_undo_21 : decode cX6_undo 21 = .ok (.getfield 19, 3) := by decide +kernel
theorem dX6_undo_24 : decode cX6_undo 24 = .ok (.aload_n 0, 1) := by decide +kernel
theorem dX6_undo_25 : decode cX6_undo 25 = .ok (.getfield 10, 3) := by decide +kernel
theorem dX6_undo_28 : decode cX6_undo 28 = .ok (.invokevirtual 199, 3) := by decide +kernel
theorem dX6_undo_31 : decode cX6_undo 31 = .ok (.aload_n 0, 1) := by decide +kernel
theorem dX6_undo_32 : decode cX6_undo 32 = .ok (.getfield 19, 3) := by decide +kernel
theorem dX6_undo_35 : decode cX6_undo 35 = .ok (.getfield 194, 3) := by decide +kernel
theorem dX6_undo_38 : decode cX6_undo 38 = .ok (.ireturn, 1) := by decide +kernel
set_option maxRecDepth 20000 in
theorem ggX6_save_X6_requireSlot : GoodIn wsX6_save wsX6_requireSlot := goodIn_ca (goodIn_r _ [9, 10, 11] (by decide +kernel) (by decide +kernel)) (goodIn_sub (fun _ h => List.mem_cons_of_mem _ (List.mem_append_right _ h)) (by decide +kernel))
set_option maxRecDepth 20000 in
theorem gX6_save_X6_requireSlot : GoodIn wsX6_save (wsV RX6 202 RX6 yX6_requireSlot wsX6_requireSlot) := goodIn_app (goodIn_of _ (by decide +kernel)) ggX6_save_X6_requireSlot
set_option maxRecDepth 20000 in
theorem ggX6_save_X2_copyFrom : GoodIn wsX6_save wsX2_copyFrom := goodIn_r _ [16, 17, 18, 19, 20, 21, 22, 23, 24, 25, 26, 27, 28, 29, 30, 31, 32, 33, 34, 35, 36, 37, 38, 39, 40, 41, 42, 43, 44, 45, 46, 47, 48, 49, 50, 51, 52, 53, 54, 55, 56, 57, 58, 59, 60, 66, 67, 68, 69, 70, 71, 72, 73, 74, 75, 76, 77, 78, 79, 80, 81, 82, 83, 84, 85, 86, 87, 88, 89] (by decide +kernel) (by decide +kernel)
set_option maxRecDepth 20000 in
theorem gX6_save_X2_copyFrom : GoodIn wsX6_save (wsV RX6 205 RX2 yX2_copyFrom wsX2_copyFrom) := goodIn_app (goodIn_of _ (by decide +kernel)) ggX6_save_X2_copyFrom
theorem dX6_save_0 : decode cX6_save 0 = .ok (.aload_n 0, 1) := by decide +kernel
theorem dX6_save_1 : decode cX6_save 1 = .ok (.iload_n 1, 1) := by decide +kernel
theorem dX6_save_2 : decode cX6_save 2 = .ok (.invokevirtual 202, 3) := by decide +kernel
theorem dX6_save_5 : decode cX6_save 5 = .ok (.aload_n 0, 1) := by decide +kernel
theorem dX6_save_6 : decode cX6_save 6 = .ok (.getfield 23, 3) := by decide +kernel
theorem dX6_save_9 : decode cX6_save 9 = .ok (.iload_n 1, 1) := by decide +kernel
theorem dX6_save_10 : decode cX6_save 10 = .ok (.aaload, 1) := by decide +kernel
theorem dX6_save_11 : decode cX6_save 11 = .ok (.aload_n 0, 1) := by decide +kernel
theorem dX6_save_12 : decode cX6_save 12 = .ok (.getfield 10, 3) := by decide +kernel
theorem dX6_save_15 : decode cX6_save 15 = .ok (.invokevirtual 205, 3) := by decide +kernel
theorem dX6_save_18 : decode cX6_save 18 = .ok (.aload_n 0, 1) := by decide +kernel
theorem dX6_save_19 : decode cX6_save 19 = .ok (.getfield 27, 3) := by decide +kernel
theorem dX6_save_22 : decode cX6_save 22 = .ok (.iload_n 1, 1) := by decide +kernel
theorem dX6_save_23 : decode cX6_save 23 = .ok (.iconst 1, 1) := by decide +kernel
theorem dX6_save_24 : decode cX6_save 24 = .ok (.bastore, 1) := by decide +kernel
theorem dX6_save_25 : decode cX6_save 25 = .ok (.aload_n 0, 1) := by decide +kernel
theorem dX6_save_26 : decode cX6_save 26 = .ok (.getfield 10, 3) := by decide +kernel
theorem dX6_save_29 : decode cX6_save 29 = .ok (.getfield 108, 3) := by decide +kernel
theorem dX6_save_32 : decode cX6_save 32 = .ok (.ireturn, 1) := by decide +kernel
set_option maxRecDepth 20000 in
theorem ggX6_restore_X6_requireSlot : GoodIn wsX6_restore wsX6_requireSlot := goodIn_ca (goodIn_r _ [12, 13, 14] (by decide +kernel) (by decide +kernel)) (goodIn_sub (fun _ h => List.mem_cons_of_mem _ (List.mem_append_right _ h)) (by decide +kernel))
set_option maxRecDepth 20000 in
theorem gX6_restore_X6_requireSlot : GoodIn wsX6_restore (wsV RX6 202 RX6 yX6_requireSlot wsX6_requireSlot) := goodIn_app (goodIn_of _ (by decide +kernel)) ggX6_restore_X6_requireSlot
set_option maxRecDepth 20000 in
theorem ggX6_restore_X0_push : GoodIn wsX6_restore wsX0_push := goodIn_r _ [19, 20, 21, 22, 23, 24, 25, 26, 27, 28, 29, 30, 31, 32, 33, 34, 35, 36, 37, 38, 39, 40, 41, 42, 43, 44, 45, 46, 47, 48, 49, 50, 51, 52, 53, 54, 55, 56, 57, 58, 59, 60, 61, 62, 63, 64, 65, 66, 67, 68, 69, 70, 71, 72, 73, 74, 75, 88, 89, 90, 82, 83, 84, 85, 86, 87, 91, 92, 93, 94, 95, 96, 97, 98, 99, 100, 101, 102, 103, 104, 105, 106, 107, 108] (by decide +kernel) (by decide +kernel)
set_option maxRecDepth 20000 in
theorem gX6_restore_X0_push : GoodIn wsX6_restore (wsV RX6 53 RX0 yX0_push wsX0_push) := goodIn_app (goodIn_of _ (by decide +kernel)) ggX6_restore_X0_push
set_option maxRecDepth 20000 in
theorem ggX6_restore_X2_copyFrom : GoodIn wsX6_restore wsX2_copyFrom := goodIn_r _ [31, 32, 33, 34, 35, 36, 37, 38, 39, 40, 41, 42, 43, 44, 45, 46, 47, 48, 49, 50, 51, 52, 53, 54, 55, 56, 57, 58, 59, 60, 61, 62, 63, 64, 65, 66, 67, 68, 69, 70, 71, 72, 73, 74, 75, 82, 83, 84, 85, 86, 87, 91, 92, 93, 94, 95, 96, 97, 98, 99, 100, 101, 102, 103, 104, 105, 106, 107, 108] (by decide +kernel) (by decide +kernel)
set_option maxRecDepth 20000 in
theorem gX6_restore_X2_copyFrom : GoodIn wsX6_restore (wsV RX6 205 RX2 yX2_copyFrom wsX2_copyFrom) := goodIn_app (goodIn_of _ (by decide +kernel)) ggX6_restore_X2_copyFrom
theorem dX6_restore_0 : decode cX6_restore 0 = .ok (.aload_n 0, 1) := by decide +kernel
theorem dX6_restore_1 : decode cX6_restore 1 = .ok (.iload_n 1, 1) := by decide +kernel
theorem dX6_restore_2 : decode cX6_restore 2 = .ok (.invokevirtual 202, 3) := by decide +kernel
theorem dX6_restore_5 : decode cX6_restore 5 = .ok (.aload_n 0, 1) := by decide +kernel
theorem dX6_restore_6 : decode cX6_restore 6 = .ok (.getfield 27, 3) := by decide +kernel
theorem dX6_restore_9 : decode cX6_restore 9 = .ok (.iload_n 1, 1) := by decide +kernel
theorem dX6_restore_10 : decode cX6_restore 10 = .ok (.baload, 1) := by decide +kernel
theorem dX6_restore_11 : decode cX6_restore 11 = .ok (.ifCond .ne 13, 3) := by decide +kernel
theorem dX6_restore_14 : decode cX6_restore 14 = .ok (.new 46, 3) := by decide +kernel
theorem dX6_restore_17 : decode cX6_restore 17 = .ok (.dup, 1) := by decide +kernel
theorem dX6_restore_18 : decode cX6_restore 18 = .ok (.ldc 208, 2) := by decide +kernel
theorem dX6_restore_20 : decode cX6_restore 20 = .ok (.invokespecial 50, 3) := by decide +kernel
theorem dX6_restore_23 : decode cX6_restore 23 = .ok (.athrow, 1) := by decide +kernel
theorem dX6_restore_24 : decode cX6_restore 24 = .ok (.aload_n 0, 1) := by decide +kernel
theorem dX6_restore_25 : decode cX6_restore 25 = .ok (.getfield 19, 3) := by decide +kernel
theorem dX6_restore_28 : decode cX6_restore 28 = .ok (.aload_n 0, 1) := by decide +kernel
theorem dX6_restore_29 : decode cX6_restore 29 = .ok (.getfield 10, 3) := by decide +kernel
theorem dX6_restore_32 : decode cX6_restore 32 = .ok (.invokevirtual 53, 3) := by decide +kernel
theorem dX6_restore_35 : decode cX6_restore 35 = .ok (.aload_n 0, 1) := by decide +kernel
theorem dX6_restore_36 : decode cX6_restore 36 = .ok (.getfield 10, 3) := by decide +kernel
theorem dX6_restore_39 : decode cX6_restore 39 = .ok (.aload_n 0, 1) := by decide +kernel
theorem dX6_restore_40 : decode cX6_restore 40 = .ok (.getfield 23, 3) := by decide +kernel
theorem dX6_restore_43 : decode cX6_restore 43 = .ok (.iload_n 1, 1) := by decide +kernel
theorem dX6_restore_44 : decode cX6_restore 44 = .ok (.aaload, 1) := by decide +kernel
theorem dX6_restore_45 : decode cX6_restore 45 = .ok (.invokevirtual 205, 3) := by decide +kernel
theorem dX6_restore_48 : decode cX6_restore 48 = .ok (.aload_n 0, 1) := by decide +kernel
theorem dX6_restore_49 : decode cX6_restore 49 = .ok (.getfield 10, 3) := by decide +kernel
theorem dX6_restore_52 : decode cX6_restore 52 = .ok (.getfield 108, 3) := by decide +kernel
theorem dX6_restore_55 : decode cX6_restore 55 = .ok (.ireturn, 1) := by decide +kernel
theorem dX6_trueTime_0 : decode cX6_trueTime 0 = .ok (.aload_n 0, 1) := by decide +kernel
theorem dX6_trueTime_1 : decode cX6_trueTime 1 = .ok (.getfield 10, 3) := by decide +kernel
theorem dX6_trueTime_4 : decode cX6_trueTime 4 = .ok (.getfield 108, 3) := by decide +kernel
theorem dX6_trueTime_7 : decode cX6_trueTime 7 = .ok (.ireturn, 1) := by decide +kernel
set_option maxRecDepth 20000 in
theorem ggX6_reading_X6_requireServer : GoodIn wsX6_reading wsX6_requireServer := goodIn_ca (goodIn_r _ [8, 9, 10] (by decide +kernel) (by decide +kernel)) (goodIn_sub (fun _ h => List.mem_cons_of_mem _ (List.mem_append_right _ h)) (by decide +kernel))
set_option maxRecDepth 20000 in
theorem gX6_reading_X6_requireServer : GoodIn wsX6_reading (wsV RX6 38 RX6 yX6_requireServer wsX6_requireServer) := goodIn_app (goodIn_of _ (by decide +kernel)) ggX6_reading_X6_requireServer
set_option maxRecDepth 20000 in
theorem ggX6_reading_X1_offsetAt : GoodIn wsX6_reading wsX1_offsetAt := goodIn_r _ [15, 16, 17, 18, 19, 20, 21, 22, 34, 35, 36, 37, 38, 39, 40] (by decide +kernel) (by decide +kernel)
set_option maxRecDepth 20000 in
theorem gX6_reading_X1_offsetAt : GoodIn wsX6_reading (wsV RX6 210 RX1 yX1_offsetAt wsX1_offsetAt) := goodIn_app (goodIn_of _ (by decide +kernel)) ggX6_reading_X1_offsetAt
theorem dX6_reading_0 : decode cX6_reading 0 = .ok (.aload_n 0, 1) := by decide +kernel
theorem dX6_reading_1 : decode cX6_reading 1 = .ok (.iload_n 1, 1) := by decide +kernel
theorem dX6_reading_2 : decode cX6_reading 2 = .ok (.invokevirtual 38, 3) := by decide +kernel
theorem dX6_reading_5 : decode cX6_reading 5 = .ok (.aload_n 0, 1) := by decide +kernel
theorem dX6_reading_6 : decode cX6_reading 6 = .ok (.getfield 10, 3) := by decide +kernel
theorem dX6_reading_9 : decode cX6_reading 9 = .ok (.getfield 108, 3) := by decide +kernel
theorem dX6_reading_12 : decode cX6_reading 12 = .ok (.aload_n 0, 1) := by decide +kernel
theorem dX6_reading_13 : decode cX6_reading 13 = .ok (.getfield 10, 3) := by decide +kernel
theorem dX6_reading_16 : decode cX6_reading 16 = .ok (.getfield 104, 3) := by decide +kernel
theorem dX6_reading_19 : decode cX6_reading 19 = .ok (.iload_n 1, 1) := by decide +kernel
theorem dX6_reading_20 : decode cX6_reading 20 = .ok (.aaload, 1) := by decide +kernel
theorem dX6_reading_21 : decode cX6_reading 21 = .ok (.aload_n 0, 1) := by decide +kernel
theorem dX6_reading_22 : decode cX6_reading 22 = .ok (.getfield 10, 3) := by decide +kernel
theorem dX6_reading_25 : decode cX6_reading 25 = .ok (.getfield 108, 3) := by decide +kernel
theorem dX6_reading_28 : decode cX6_reading 28 = .ok (.invokevirtual 210, 3) := by decide +kernel
theorem dX6_reading_31 : decode cX6_reading 31 = .ok (.iadd, 1) := by decide +kernel
theorem dX6_reading_32 : decode cX6_reading 32 = .ok (.ireturn, 1) := by decide +kernel
set_option maxRecDepth 20000 in
theorem ggX6_earliest_X6_requireServer : GoodIn wsX6_earliest wsX6_requireServer := goodIn_ca (goodIn_r _ [8, 9, 10] (by decide +kernel) (by decide +kernel)) (goodIn_sub (fun _ h => List.mem_cons_of_mem _ (List.mem_append_right _ h)) (by decide +kernel))
set_option maxRecDepth 20000 in
theorem gX6_earliest_X6_requireServer : GoodIn wsX6_earliest (wsV RX6 38 RX6 yX6_requireServer wsX6_requireServer) := goodIn_app (goodIn_of _ (by decide +kernel)) ggX6_earliest_X6_requireServer
set_option maxRecDepth 20000 in
theorem ggX6_earliest_X1_earliestAt : GoodIn wsX6_earliest wsX1_earliestAt := goodIn_r _ [15, 16, 17, 18, 14, 19, 20, 21, 22, 23, 24, 25, 26, 27, 28, 29, 30, 31, 32, 33, 45, 46, 47, 48, 49, 50, 51] (by decide +kernel) (by decide +kernel)
set_option maxRecDepth 20000 in
theorem gX6_earliest_X1_earliestAt : GoodIn wsX6_earliest (wsV RX6 213 RX1 yX1_earliestAt wsX1_earliestAt) := goodIn_app (goodIn_of _ (by decide +kernel)) ggX6_earliest_X1_earliestAt
theorem dX6_earliest_0 : decode cX6_earliest 0 = .ok (.aload_n 0, 1) := by decide +kernel
theorem dX6_earliest_1 : decode cX6_earliest 1 = .ok (.iload_n 1, 1) := by decide +kernel
theorem dX6_earliest_2 : decode cX6_earliest 2 = .ok (.invokevirtual 38, 3) := by decide +kernel
theorem dX6_earliest_5 : decode cX6_earliest 5 = .ok (.aload_n 0, 1) := by decide +kernel
theorem dX6_earliest_6 : decode cX6_earliest 6 = .ok (.getfield 10, 3) := by decide +kernel
theorem dX6_earliest_9 : decode cX6_earliest 9 = .ok (.getfield 104, 3) := by decide +kernel
theorem dX6_earliest_12 : decode cX6_earliest 12 = .ok (.iload_n 1, 1) := by decide +kernel
theorem dX6_earliest_13 : decode cX6_earliest 13 = .ok (.aaload, 1) := by decide +kernel
theorem dX6_earliest_14 : decode cX6_earliest 14 = .ok (.aload_n 0, 1) := by decide +kernel
theorem dX6_earliest_15 : decode cX6_earliest 15 = .ok (.getfield 10, 3) := by decide +kernel
theorem dX6_earliest_18 : decode cX6_earliest 18 = .ok (.getfield 108, 3) := by decide +kernel
theorem dX6_earliest_21 : decode cX6_earliest 21 = .ok (.invokevirtual 213, 3) := by decide +kernel
theorem dX6_earliest_24 : decode cX6_earliest 24 = .ok (.ireturn, 1) := by decide +kernel
set_option maxRecDepth 20000 in
theorem ggX6_latest_X6_requireServer : GoodIn wsX6_latest wsX6_requireServer := goodIn_ca (goodIn_r _ [8, 9, 10] (by decide +kernel) (by decide +kernel)) (goodIn_sub (fun _ h => List.mem_cons_of_mem _ (List.mem_append_right _ h)) (by decide +kernel))
set_option maxRecDepth 20000 in
theorem gX6_latest_X6_requireServer : GoodIn wsX6_latest (wsV RX6 38 RX6 yX6_requireServer wsX6_requireServer) := goodIn_app (goodIn_of _ (by decide +kernel)) ggX6_latest_X6_requireServer
set_option maxRecDepth 20000 in
theorem ggX6_latest_X1_latestAt : GoodIn wsX6_latest wsX1_latestAt := goodIn_r _ [15, 16, 17, 18, 14, 19, 20, 21, 22, 23, 24, 25, 26, 27, 28, 29, 30, 31, 32, 33, 45, 46, 47, 48, 49, 50, 51] (by decide +kernel) (by decide +kernel)
set_option maxRecDepth 20000 in
theorem gX6_latest_X1_latestAt : GoodIn wsX6_latest (wsV RX6 216 RX1 yX1_latestAt wsX1_latestAt) := goodIn_app (goodIn_of _ (by decide +kernel)) ggX6_latest_X1_latestAt
theorem dX6_latest_0 : decode cX6_latest 0 = .ok (.aload_n 0, 1) := by decide +kernel
theorem dX6_latest_1 : decode cX6_latest 1 = .ok (.iload_n 1, 1) := by decide +kernel
theorem dX6_latest_2 : decode cX6_latest 2 = .ok (.invokevirtual 38, 3) := by decide +kernel
theorem dX6_latest_5 : decode cX6_latest 5 = .ok (.aload_n 0, 1) := by decide +kernel
theorem dX6_latest_6 : decode cX6_latest 6 = .ok (.getfield 10, 3) := by decide +kernel
theorem dX6_latest_9 : decode cX6_latest 9 = .ok (.getfield 104, 3) := by decide +kernel
theorem dX6_latest_12 : decode cX6_latest 12 = .ok (.iload_n 1, 1) := by decide +kernel
theorem dX6_latest_13 : decode cX6_latest 13 = .ok (.aaload, 1) := by decide +kernel
theorem dX6_latest_14 : decode cX6_latest 14 = .ok (.aload_n 0, 1) := by decide +kernel
theorem dX6_latest_15 : decode cX6_latest 15 = .ok (.getfield 10, 3) := by decide +kernel
theorem dX6_latest_18 : decode cX6_latest 18 = .ok (.getfield 108, 3) := by decide +kernel
theorem dX6_latest_21 : decode cX6_latest 21 = .ok (.invokevirtual 216, 3) := by decide +kernel
theorem dX6_latest_24 : decode cX6_latest 24 = .ok (.ireturn, 1) := by decide +kernel
set_option maxRecDepth 20000 in
theorem ggX6_isSound_X6_requireServer : GoodIn wsX6_isSound wsX6_requireServer := goodIn_ca (goodIn_r _ [8, 9, 10] (by decide +kernel) (by decide +kernel)) (goodIn_sub (fun _ h => List.mem_cons_of_mem _ (List.mem_append_right _ h)) (by decide +kernel))
set_option maxRecDepth 20000 in
theorem gX6_isSound_X6_requireServer : GoodIn wsX6_isSound (wsV RX6 38 RX6 yX6_requireServer wsX6_requireServer) := goodIn_app (goodIn_of _ (by decide +kernel)) ggX6_isSound_X6_requireServer
set_option maxRecDepth 20000 in
theorem ggX6_isSound_X1_isSoundAt : GoodIn wsX6_isSound wsX1_isSoundAt := goodIn_r _ [15, 16, 17, 18, 14, 19, 20, 21, 22, 23, 24, 25, 26, 27, 28, 29, 30, 31, 32, 33, 45, 46, 47, 48, 49, 50, 51] (by decide +kernel) (by decide +kernel)
set_option maxRecDepth 20000 in
theorem gX6_isSound_X1_isSoundAt : GoodIn wsX6_isSound (wsV RX6 219 RX1 yX1_isSoundAt wsX1_isSoundAt) := goodIn_app (goodIn_of _ (by decide +kernel)) ggX6_isSound_X1_isSoundAt
theorem dX6_isSound_0 : decode cX6_isSound 0 = .ok (.aload_n 0, 1) := by decide +kernel
theorem dX6_isSound_1 : decode cX6_isSound 1 = .ok (.iload_n 1, 1) := by decide +kernel
theorem dX6_isSound_2 : decode cX6_isSound 2 = .ok (.invokevirtual 38, 3) := by decide +kernel
theorem dX6_isSound_5 : decode cX6_isSound 5 = .ok (.aload_n 0, 1) := by decide +kernel
theorem dX6_isSound_6 : decode cX6_isSound 6 = .ok (.getfield 10, 3) := by decide +kernel
theorem dX6_isSound_9 : decode cX6_isSound 9 = .ok (.getfield 104, 3) := by decide +kernel
theorem dX6_isSound_12 : decode cX6_isSound 12 = .ok (.iload_n 1, 1) := by decide +kernel
theorem dX6_isSound_13 : decode cX6_isSound 13 = .ok (.aaload, 1) := by decide +kernel
theorem dX6_isSound_14 : decode cX6_isSound 14 = .ok (.aload_n 0, 1) := by decide +kernel
theorem dX6_isSound_15 : decode cX6_isSound 15 = .ok (.getfield 10, 3) := by decide +kernel
theorem dX6_isSound_18 : decode cX6_isSound 18 = .ok (.getfield 108, 3) := by decide +kernel
theorem dX6_isSound_21 : decode cX6_isSound 21 = .ok (.invokevirtual 219, 3) := by decide +kernel
theorem dX6_isSound_24 : decode cX6_isSound 24 = .ok (.ireturn, 1) := by decide +kernel
set_option maxRecDepth 20000 in
theorem ggX6_nextTimestamp_X6_requireServer : GoodIn wsX6_nextTimestamp wsX6_requireServer := goodIn_ca (goodIn_r _ [6, 7, 8] (by decide +kernel) (by decide +kernel)) (goodIn_sub (fun _ h => List.mem_cons_of_mem _ (List.mem_append_right _ h)) (by decide +kernel))
set_option maxRecDepth 20000 in
theorem gX6_nextTimestamp_X6_requireServer : GoodIn wsX6_nextTimestamp (wsV RX6 38 RX6 yX6_requireServer wsX6_requireServer) := goodIn_app (goodIn_of _ (by decide +kernel)) ggX6_nextTimestamp_X6_requireServer
set_option maxRecDepth 20000 in
theorem ggX6_nextTimestamp_X2_nextTimestampOf : GoodIn wsX6_nextTimestamp wsX2_nextTimestampOf := goodIn_r _ [13, 14, 15, 16, 17, 18, 19, 20, 21, 22, 23, 24, 25, 26, 27, 28, 29, 30, 31, 32, 33, 34, 35, 36, 37, 38, 39, 40, 41, 42, 43, 44, 50, 51, 52, 53, 54, 55, 56, 57, 58, 59, 60, 61, 62] (by decide +kernel) (by decide +kernel)
set_option maxRecDepth 20000 in
theorem gX6_nextTimestamp_X2_nextTimestampOf : GoodIn wsX6_nextTimestamp (wsV RX6 222 RX2 yX2_nextTimestampOf wsX2_nextTimestampOf) := goodIn_app (goodIn_of _ (by decide +kernel)) ggX6_nextTimestamp_X2_nextTimestampOf
theorem dX6_nextTimestamp_0 : decode cX6_nextTimestamp 0 = .ok (.aload_n 0, 1) := by decide +kernel
theorem dX6_nextTimestamp_1 : decode cX6_nextTimestamp 1 = .ok (.iload_n 1, 1) := by decide +kernel
theorem dX6_nextTimestamp_2 : decode cX6_nextTimestamp 2 = .ok (.invokevirtual 38, 3) := by decide +kernel
theorem dX6_nextTimestamp_5 : decode cX6_nextTimestamp 5 = .ok (.aload_n 0, 1) := by decide +kernel
theorem dX6_nextTimestamp_6 : decode cX6_nextTimestamp 6 = .ok (.getfield 10, 3) := by decide +kernel
theorem dX6_nextTimestamp_9 : decode cX6_nextTimestamp 9 = .ok (.iload_n 1, 1) := by decide +kernel
theorem dX6_nextTimestamp_10 : decode cX6_nextTimestamp 10 = .ok (.invokevirtual 222, 3) := by decide +kernel
theorem dX6_nextTimestamp_13 : decode cX6_nextTimestamp 13 = .ok (.ireturn, 1) := by decide +kernel
theorem dX6_transactions_0 : decode cX6_transactions 0 = .ok (.aload_n 0, 1) := by decide +kernel
theorem dX6_transactions_1 : decode cX6_transactions 1 = .ok (.getfield 10, 3) := by decide +kernel
theorem dX6_transactions_4 : decode cX6_transactions 4 = .ok (.getfield 185, 3) := by decide +kernel
theorem dX6_transactions_7 : decode cX6_transactions 7 = .ok (.getfield 225, 3) := by decide +kernel
theorem dX6_transactions_10 : decode cX6_transactions 10 = .ok (.ireturn, 1) := by decide +kernel
set_option maxRecDepth 20000 in
theorem ggX6_state_X6_requireTransaction : GoodIn wsX6_state wsX6_requireTransaction := goodIn_ca (goodIn_r _ [8, 9, 10, 1, 2, 11, 12, 13, 14, 15, 16, 17, 18, 19, 20, 21, 22, 23, 24, 25, 26, 27, 28, 29, 30] (by decide +kernel) (by decide +kernel)) (goodIn_sub (fun _ h => List.mem_cons_of_mem _ (List.mem_append_right _ h)) (by decide +kernel))
set_option maxRecDepth 20000 in
theorem gX6_state_X6_requireTransaction : GoodIn wsX6_state (wsV RX6 61 RX6 yX6_requireTransaction wsX6_requireTransaction) := goodIn_app (goodIn_of _ (by decide +kernel)) ggX6_state_X6_requireTransaction
theorem dX6_state_0 : decode cX6_state 0 = .ok (.aload_n 0, 1) := by decide +kernel
theorem dX6_state_1 : decode cX6_state 1 = .ok (.iload_n 1, 1) := by decide +kernel
theorem dX6_state_2 : decode cX6_state 2 = .ok (.invokevirtual 61, 3) := by decide +kernel
theorem dX6_state_5 : decode cX6_state 5 = .ok (.aload_n 0, 1) := by decide +kernel
theorem dX6_state_6 : decode cX6_state 6 = .ok (.getfield 10, 3) := by decide +kernel
theorem dX6_state_9 : decode cX6_state 9 = .ok (.getfield 185, 3) := by decide +kernel
theorem dX6_state_12 : decode cX6_state 12 = .ok (.getfield 228, 3) := by decide +kernel
theorem dX6_state_15 : decode cX6_state 15 = .ok (.iload_n 1, 1) := by decide +kernel
theorem dX6_state_16 : decode cX6_state 16 = .ok (.iaload, 1) := by decide +kernel
theorem dX6_state_17 : decode cX6_state 17 = .ok (.ireturn, 1) := by decide +kernel
set_option maxRecDepth 20000 in
theorem ggX6_timestamp_X6_requireTransaction : GoodIn wsX6_timestamp wsX6_requireTransaction := goodIn_ca (goodIn_r _ [8, 9, 10, 1, 2, 11, 12, 13, 14, 15, 16, 17, 18, 19, 20, 21, 22, 23, 24, 25, 26, 27, 28, 29, 30] (by decide +kernel) (by decide +kernel)) (goodIn_sub (fun _ h => List.mem_cons_of_mem _ (List.mem_append_right _ h)) (by decide +kernel))
set_option maxRecDepth 20000 in
theorem gX6_timestamp_X6_requireTransaction : GoodIn wsX6_timestamp (wsV RX6 61 RX6 yX6_requireTransaction wsX6_requireTransaction) := goodIn_app (goodIn_of _ (by decide +kernel)) ggX6_timestamp_X6_requireTransaction
theorem dX6_timestamp_0 : decode cX6_timestamp 0 = .ok (.aload_n 0, 1) := by decide +kernel
theorem dX6_timestamp_1 : decode cX6_timestamp 1 = .ok (.iload_n 1, 1) := by decide +kernel
theorem dX6_timestamp_2 : decode cX6_timestamp 2 = .ok (.invokevirtual 61, 3) := by decide +kernel
theorem dX6_timestamp_5 : decode cX6_timestamp 5 = .ok (.aload_n 0, 1) := by decide +kernel
theorem dX6_timestamp_6 : decode cX6_timestamp 6 = .ok (.getfield 10, 3) := by decide +kernel
theorem dX6_timestamp_9 : decode cX6_timestamp 9 = .ok (.getfield 185, 3) := by decide +kernel
theorem dX6_timestamp_12 : decode cX6_timestamp 12 = .ok (.getfield 231, 3) := by decide +kernel
theorem dX6_timestamp_15 : decode cX6_timestamp 15 = .ok (.iload_n 1, 1) := by decide +kernel
theorem dX6_timestamp_16 : decode cX6_timestamp 16 = .ok (.iaload, 1) := by decide +kernel
theorem dX6_timestamp_17 : decode cX6_timestamp 17 = .ok (.ireturn, 1) := by decide +kernel
set_option maxRecDepth 20000 in
theorem ggX6_requestTime_X6_requireTransaction : GoodIn wsX6_requestTime wsX6_requireTransaction := goodIn_ca (goodIn_r _ [8, 9, 10, 1, 2, 11, 12, 13, 14, 15, 16, 17, 18, 19, 20, 21, 22, 23, 24, 25, 26, 27, 28, 29, 30] (by decide +kernel) (by decide +kernel)) (goodIn_sub (fun _ h => List.mem_cons_of_mem _ (List.mem_append_right _ h)) (by decide +kernel))
set_option maxRecDepth 20000 in
theorem gX6_requestTime_X6_requireTransaction : GoodIn wsX6_requestTime (wsV RX6 61 RX6 yX6_requireTransaction wsX6_requireTransaction) := goodIn_app (goodIn_of _ (by decide +kernel)) ggX6_requestTime_X6_requireTransaction
theorem dX6_requestTime_0 : decode cX6_requestTime 0 = .ok (.aload_n 0, 1) := by decide +kernel
theorem dX6_requestTime_1 : decode cX6_requestTime 1 = .ok (.iload_n 1, 1) := by decide +kernel
theorem dX6_requestTime_2 : decode cX6_requestTime 2 = .ok (.invokevirtual 61, 3) := by decide +kernel
theorem dX6_requestTime_5 : decode cX6_requestTime 5 = .ok (.aload_n 0, 1) := by decide +kernel
theorem dX6_requestTime_6 : decode cX6_requestTime 6 = .ok (.getfield 10, 3) := by decide +kernel
theorem dX6_requestTime_9 : decode cX6_requestTime 9 = .ok (.getfield 185, 3) := by decide +kernel
theorem dX6_requestTime_12 : decode cX6_requestTime 12 = .ok (.getfield 234, 3) := by decide +kernel
theorem dX6_requestTime_15 : decode cX6_requestTime 15 = .ok (.iload_n 1, 1) := by decide +kernel
theorem dX6_requestTime_16 : decode cX6_requestTime 16 = .ok (.iaload, 1) := by decide +kernel
theorem dX6_requestTime_17 : decode cX6_requestTime 17 = .ok (.ireturn, 1) := by decide +kernel
set_option maxRecDepth 20000 in
theorem ggX6_commitTime_X6_requireTransaction : GoodIn wsX6_commitTime wsX6_requireTransaction := goodIn_ca (goodIn_r _ [8, 9, 10, 1, 2, 11, 12, 13, 14, 15, 16, 17, 18, 19, 20, 21, 22, 23, 24, 25, 26, 27, 28, 29, 30] (by decide +kernel) (by decide +kernel)) (goodIn_sub (fun _ h => List.mem_cons_of_mem _ (List.mem_append_right _ h)) (by decide +kernel))
set_option maxRecDepth 20000 in
theorem gX6_commitTime_X6_requireTransaction : GoodIn wsX6_commitTime (wsV RX6 61 RX6 yX6_requireTransaction wsX6_requireTransaction) := goodIn_app (goodIn_of _ (by decide +kernel)) ggX6_commitTime_X6_requireTransaction
theorem dX6_commitTime_0 : decode cX6_commitTime 0 = .ok (.aload_n 0, 1) := by decide +kernel
theorem dX6_commitTime_1 : decode cX6_commitTime 1 = .ok (.iload_n 1, 1) := by decide +kernel
theorem dX6_commitTime_2 : decode cX6_commitTime 2 = .ok (.invokevirtual 61, 3) := by decide +kernel
theorem dX6_commitTime_5 : decode cX6_commitTime 5 = .ok (.aload_n 0, 1) := by decide +kernel
theorem dX6_commitTime_6 : decode cX6_commitTime 6 = .ok (.getfield 10, 3) := by decide +kernel
theorem dX6_commitTime_9 : decode cX6_commitTime 9 = .ok (.getfield 185, 3) := by decide +kernel
theorem dX6_commitTime_12 : decode cX6_commitTime 12 = .ok (.getfield 237, 3) := by decide +kernel
theorem dX6_commitTime_15 : decode cX6_commitTime 15 = .ok (.iload_n 1, 1) := by decide +kernel
theorem dX6_commitTime_16 : decode cX6_commitTime 16 = .ok (.iaload, 1) := by decide +kernel
theorem dX6_commitTime_17 : decode cX6_commitTime 17 = .ok (.ireturn, 1) := by decide +kernel
set_option maxRecDepth 20000 in
theorem ggX6_bufferedValue_X6_requireTransaction : GoodIn wsX6_bufferedValue wsX6_requireTransaction := goodIn_ca (goodIn_r _ [7, 8, 9, 1, 2, 10, 21, 22, 23, 24, 25, 26, 27, 28, 29, 30, 31, 32, 33, 34, 35, 36, 37, 38, 39] (by decide +kernel) (by decide +kernel)) (goodIn_sub (fun _ h => List.mem_cons_of_mem _ (List.mem_append_right _ h)) (by decide +kernel))
set_option maxRecDepth 20000 in
theorem gX6_bufferedValue_X6_requireTransaction : GoodIn wsX6_bufferedValue (wsV RX6 61 RX6 yX6_requireTransaction wsX6_requireTransaction) := goodIn_app (goodIn_of _ (by decide +kernel)) ggX6_bufferedValue_X6_requireTransaction
set_option maxRecDepth 20000 in
theorem ggX6_bufferedValue_X6_requireKey : GoodIn wsX6_bufferedValue wsX6_requireKey := goodIn_ca (goodIn_r _ [14, 8, 9] (by decide +kernel) (by decide +kernel)) (goodIn_sub (fun _ h => List.mem_cons_of_mem _ (List.mem_append_right _ h)) (by decide +kernel))
set_option maxRecDepth 20000 in
theorem gX6_bufferedValue_X6_requireKey : GoodIn wsX6_bufferedValue (wsV RX6 64 RX6 yX6_requireKey wsX6_requireKey) := goodIn_app (goodIn_of _ (by decide +kernel)) ggX6_bufferedValue_X6_requireKey
set_option maxRecDepth 20000 in
theorem ggX6_bufferedValue_X4_bufferOf : GoodIn wsX6_bufferedValue wsX4_bufferOf := goodIn_r _ [19, 20, 32, 33, 34, 35, 36, 37, 38, 39] (by decide +kernel) (by decide +kernel)
set_option maxRecDepth 20000 in
theorem gX6_bufferedValue_X4_bufferOf : GoodIn wsX6_bufferedValue (wsV RX6 240 RX4 yX4_bufferOf wsX4_bufferOf) := goodIn_app (goodIn_of _ (by decide +kernel)) ggX6_bufferedValue_X4_bufferOf
theorem dX6_bufferedValue_0 : decode cX6_bufferedValue 0 = .ok (.aload_n 0, 1) := by decide +kernel
theorem dX6_bufferedValue_1 : decode cX6_bufferedValue 1 = .ok (.iload_n 1, 1) := by decide +kernel
theorem dX6_bufferedValue_2 : decode cX6_bufferedValue 2 = .ok (.invokevirtual 61, 3) := by decide +kernel
theorem dX6_bufferedValue_5 : decode cX6_bufferedValue 5 = .ok (.aload_n 0, 1) := by decide +kernel
theorem dX6_bufferedValue_6 : decode cX6_bufferedValue 6 = .ok (.iload_n 2, 1) := by decide +kernel
theorem dX6_bufferedValue_7 : decode cX6_bufferedValue 7 = .ok (.invokevirtual 64, 3) := by decide +kernel
theorem dX6_bufferedValue_10 : decode cX6_bufferedValue 10 = .ok (.aload_n 0, 1) := by decide +kernel
theorem dX6_bufferedValue_11 : decode cX6_bufferedValue 11 = .ok (.getfield 10, 3) := by decide +kernel
theorem dX6_bufferedValue_14 : decode cX6_bufferedValue 14 = .ok (.getfield 185, 3) := by decide +kernel
theorem dX6_bufferedValue_17 : decode cX6_bufferedValue 17 = .ok (.iload_n 1, 1) := by decide +kernel
theorem dX6_bufferedValue_18 : decode cX6_bufferedValue 18 = .ok (.iload_n 2, 1) := by decide +kernel
theorem dX6_bufferedValue_19 : decode cX6_bufferedValue 19 = .ok (.invokevirtual 240, 3) := by decide +kernel
theorem dX6_bufferedValue_22 : decode cX6_bufferedValue 22 = .ok (.ireturn, 1) := by decide +kernel
set_option maxRecDepth 20000 in
theorem ggX6_recordedTimestamp_X6_requireTransaction : GoodIn wsX6_recordedTimestamp wsX6_requireTransaction := goodIn_ca (goodIn_r _ [8, 9, 10, 1, 2, 11, 28, 29, 30, 31, 32, 33, 34, 35, 36, 37, 38, 39, 40, 41, 42, 43, 44, 45, 46] (by decide +kernel) (by decide +kernel)) (goodIn_sub (fun _ h => List.mem_cons_of_mem _ (List.mem_append_right _ h)) (by decide +kernel))
set_option maxRecDepth 20000 in
theorem gX6_recordedTimestamp_X6_requireTransaction : GoodIn wsX6_recordedTimestamp (wsV RX6 61 RX6 yX6_requireTransaction wsX6_requireTransaction) := goodIn_app (goodIn_of _ (by decide +kernel)) ggX6_recordedTimestamp_X6_requireTransaction
set_option maxRecDepth 20000 in
theorem ggX6_recordedTimestamp_X6_requireKey : GoodIn wsX6_recordedTimestamp wsX6_requireKey := goodIn_ca (goodIn_r _ [15, 9, 10] (by decide +kernel) (by decide +kernel)) (goodIn_sub (fun _ h => List.mem_cons_of_mem _ (List.mem_append_right _ h)) (by decide +kernel))
set_option maxRecDepth 20000 in
theorem gX6_recordedTimestamp_X6_requireKey : GoodIn wsX6_recordedTimestamp (wsV RX6 64 RX6 yX6_requireKey wsX6_requireKey) := goodIn_app (goodIn_of _ (by decide +kernel)) ggX6_recordedTimestamp_X6_requireKey
set_option maxRecDepth 20000 in
theorem ggX6_recordedTimestamp_X4_recordedVersion : GoodIn wsX6_recordedTimestamp wsX4_recordedVersion := goodIn_r _ [20, 21, 39, 40, 41, 42, 43, 44, 45, 46] (by decide +kernel) (by decide +kernel)
set_option maxRecDepth 20000 in
theorem gX6_recordedTimestamp_X4_recordedVersion : GoodIn wsX6_recordedTimestamp (wsV RX6 243 RX4 yX4_recordedVersion wsX4_recordedVersion) := goodIn_app (goodIn_of _ (by decide +kernel)) ggX6_recordedTimestamp_X4_recordedVersion
set_option maxRecDepth 20000 in
theorem ggX6_recordedTimestamp_X5_timestampOf : GoodIn wsX6_recordedTimestamp wsX5_timestampOf := goodIn_r _ [26, 27, 47, 48, 49] (by decide +kernel) (by decide +kernel)
set_option maxRecDepth 20000 in
theorem gX6_recordedTimestamp_X5_timestampOf : GoodIn wsX6_recordedTimestamp (wsV RX6 246 RX5 yX5_timestampOf wsX5_timestampOf) := goodIn_app (goodIn_of _ (by decide +kernel)) ggX6_recordedTimestamp_X5_timestampOf
theorem dX6_recordedTimestamp_0 : decode cX6_recordedTimestamp 0 = .ok (.aload_n 0, 1) := by decide +kernel
theorem dX6_recordedTimestamp_1 : decode cX6_recordedTimestamp 1 = .ok (.iload_n 1, 1) := by decide +kernel
theorem dX6_recordedTimestamp_2 : decode cX6_recordedTimestamp 2 = .ok (.invokevirtual 61, 3) := by decide +kernel
theorem dX6_recordedTimestamp_5 : decode cX6_recordedTimestamp 5 = .ok (.aload_n 0, 1) := by decide +kernel
theorem dX6_recordedTimestamp_6 : decode cX6_recordedTimestamp 6 = .ok (.iload_n 2, 1) := by decide +kernel
theorem dX6_recordedTimestamp_7 : decode cX6_recordedTimestamp 7 = .ok (.invokevirtual 64, 3) := by decide +kernel
theorem dX6_recordedTimestamp_10 : decode cX6_recordedTimestamp 10 = .ok (.aload_n 0, 1) := by decide +kernel
theorem dX6_recordedTimestamp_11 : decode cX6_recordedTimestamp 11 = .ok (.getfield 10, 3) := by decide +kernel
theorem dX6_recordedTimestamp_14 : decode cX6_recordedTimestamp 14 = .ok (.getfield 185, 3) := by decide +kernel
theorem dX6_recordedTimestamp_17 : decode cX6_recordedTimestamp 17 = .ok (.iload_n 1, 1) := by decide +kernel
theorem dX6_recordedTimestamp_18 : decode cX6_recordedTimestamp 18 = .ok (.iload_n 2, 1) := by decide +kernel
theorem dX6_recordedTimestamp_19 : decode cX6_recordedTimestamp 19 = .ok (.invokevirtual 243, 3) := by decide +kernel
theorem dX6_recordedTimestamp_22 : decode cX6_recordedTimestamp 22 = .ok (.istore_n 3, 1) := by decide +kernel
theorem dX6_recordedTimestamp_23 : decode cX6_recordedTimestamp 23 = .ok (.iload_n 3, 1) := by decide +kernel
theorem dX6_recordedTimestamp_24 : decode cX6_recordedTimestamp 24 = .ok (.iconst (-1), 1) := by decide +kernel
theorem dX6_recordedTimestamp_25 : decode cX6_recordedTimestamp 25 = .ok (.if_icmp .ne 7, 3) := by decide +kernel
theorem dX6_recordedTimestamp_28 : decode cX6_recordedTimestamp 28 = .ok (.iconst (-1), 1) := by decide +kernel
theorem dX6_recordedTimestamp_29 : decode cX6_recordedTimestamp 29 = .ok (.goto 15, 3) := by decide +kernel
theorem dX6_recordedTimestamp_32 : decode cX6_recordedTimestamp 32 = .ok (.aload_n 0, 1) := by decide +kernel
theorem dX6_recordedTimestamp_33 : decode cX6_recordedTimestamp 33 = .ok (.getfield 10, 3) := by decide +kernel
theorem dX6_recordedTimestamp_36 : decode cX6_recordedTimestamp 36 = .ok (.getfield 140, 3) := by decide +kernel
theorem dX6_recordedTimestamp_39 : decode cX6_recordedTimestamp 39 = .ok (.iload_n 2, 1) := by decide +kernel
theorem dX6_recordedTimestamp_40 : decode cX6_recordedTimestamp 40 = .ok (.iload_n 3, 1) := by decide +kernel
theorem dX6_recordedTimestamp_41 : decode cX6_recordedTimestamp 41 = .ok (.invokevirtual 246, 3) := by decide +kernel
theorem dX6_recordedTimestamp_44 : decode cX6_recordedTimestamp 44 = .ok (.ireturn, 1) := by decide +kernel
set_option maxRecDepth 20000 in
theorem ggX6_ifCommitted_X6_requireTransaction : GoodIn wsX6_ifCommitted wsX6_requireTransaction := goodIn_ca (goodIn_r _ [7, 8, 9, 1, 2, 10, 111, 112, 113, 114, 115, 116, 117, 118, 119, 120, 121, 122, 123, 124, 125, 126, 127, 128, 129] (by decide +kernel) (by decide +kernel)) (goodIn_sub (fun _ h => List.mem_cons_of_mem _ (List.mem_append_right _ h)) (by decide +kernel))
set_option maxRecDepth 20000 in
theorem gX6_ifCommitted_X6_requireTransaction : GoodIn wsX6_ifCommitted (wsV RX6 61 RX6 yX6_requireTransaction wsX6_requireTransaction) := goodIn_app (goodIn_of _ (by decide +kernel)) ggX6_ifCommitted_X6_requireTransaction
set_option maxRecDepth 20000 in
theorem ggX6_ifCommitted_X4_isOpen : GoodIn wsX6_ifCommitted wsX4_isOpen := goodIn_r _ [15, 16, 17, 122, 123, 124, 125, 126, 127, 128, 129] (by decide +kernel) (by decide +kernel)
set_option maxRecDepth 20000 in
theorem gX6_ifCommitted_X4_isOpen : GoodIn wsX6_ifCommitted (wsV RX6 189 RX4 yX4_isOpen wsX4_isOpen) := goodIn_app (goodIn_of _ (by decide +kernel)) ggX6_ifCommitted_X4_isOpen
set_option maxRecDepth 20000 in
theorem ggX6_ifCommitted_X2_commitOutcome : GoodIn wsX6_ifCommitted wsX2_commitOutcome := goodIn_r _ [22, 23, 24, 25, 26, 27, 28, 29, 30, 31, 32, 21, 33, 34, 35, 36, 14, 37, 38, 39, 40, 41, 42, 43, 44, 45, 46, 47, 48, 49, 50, 51, 52, 16, 17, 53, 54, 55, 56, 57, 58, 59, 60, 61, 62, 63, 64, 65, 66, 67, 68, 69, 70, 71, 72, 73, 74, 75, 76, 77, 78, 79, 80, 81, 82, 83, 84, 85, 86, 87, 88, 89, 90, 91, 92, 93, 94, 95, 96, 97, 98, 99, 100, 101, 102, 103, 104, 105, 106, 107, 108, 109, 110, 116, 117, 118, 119, 120, 121, 122, 123, 124, 125, 126, 127, 128, 129, 130, 131, 132, 133, 134, 135, 136, 137, 138, 139] (by decide +kernel) (by decide +kernel)
set_option maxRecDepth 20000 in
theorem gX6_ifCommitted_X2_commitOutcome : GoodIn wsX6_ifCommitted (wsV RX6 82 RX2 yX2_commitOutcome wsX2_commitOutcome) := goodIn_app (goodIn_of _ (by decide +kernel)) ggX6_ifCommitted_X2_commitOutcome
theorem dX6_ifCommitted_0 : decode cX6_ifCommitted 0 = .ok (.aload_n 0, 1) := by decide +kernel
theorem dX6_ifCommitted_1 : decode cX6_ifCommitted 1 = .ok (.iload_n 1, 1) := by decide +kernel
theorem dX6_ifCommitted_2 : decode cX6_ifCommitted 2 = .ok (.invokevirtual 61, 3) := by decide +kernel
theorem dX6_ifCommitted_5 : decode cX6_ifCommitted 5 = .ok (.aload_n 0, 1) := by decide +kernel
theorem dX6_ifCommitted_6 : decode cX6_ifCommitted 6 = .ok (.getfield 10, 3) := by decide +kernel
theorem dX6_ifCommitted_9 : decode cX6_ifCommitted 9 = .ok (.getfield 185, 3) := by decide +kernel
theorem dX6_ifCommitted_12 : decode cX6_ifCommitted 12 = .ok (.iload_n 1, 1) := by decide +kernel
theorem dX6_ifCommitted_13 : decode cX6_ifCommitted 13 = .ok (.invokevirtual 189, 3) := by decide +kernel
theorem dX6_ifCommitted_16 : decode cX6_ifCommitted 16 = .ok (.ifCond .eq 14, 3) := by decide +kernel
theorem dX6_ifCommitted_19 : decode cX6_ifCommitted 19 = .ok (.aload_n 0, 1) := by decide +kernel
theorem dX6_ifCommitted_20 : decode cX6_ifCommitted 20 = .ok (.getfield 10, 3) := by decide +kernel
theorem dX6_ifCommitted_23 : decode cX6_ifCommitted 23 = .ok (.iload_n 1, 1) := by decide +kernel
theorem dX6_ifCommitted_24 : decode cX6_ifCommitted 24 = .ok (.invokevirtual 82, 3) := by decide +kernel
theorem dX6_ifCommitted_27 : decode cX6_ifCommitted 27 = .ok (.goto 4, 3) := by decide +kernel
theorem dX6_ifCommitted_30 : decode cX6_ifCommitted 30 = .ok (.iconst (-1), 1) := by decide +kernel
theorem dX6_ifCommitted_31 : decode cX6_ifCommitted 31 = .ok (.ireturn, 1) := by decide +kernel
set_option maxRecDepth 20000 in
theorem ggX6_ticksToCommit_X6_requireTransaction : GoodIn wsX6_ticksToCommit wsX6_requireTransaction := goodIn_ca (goodIn_r _ [8, 9, 10, 1, 2, 11, 45, 46, 47, 48, 49, 50, 51, 52, 53, 54, 55, 56, 57, 58, 59, 60, 61, 62, 63] (by decide +kernel) (by decide +kernel)) (goodIn_sub (fun _ h => List.mem_cons_of_mem _ (List.mem_append_right _ h)) (by decide +kernel))
set_option maxRecDepth 20000 in
theorem gX6_ticksToCommit_X6_requireTransaction : GoodIn wsX6_ticksToCommit (wsV RX6 61 RX6 yX6_requireTransaction wsX6_requireTransaction) := goodIn_app (goodIn_of _ (by decide +kernel)) ggX6_ticksToCommit_X6_requireTransaction
set_option maxRecDepth 20000 in
theorem ggX6_ticksToCommit_X2_ticksUntilCommitted : GoodIn wsX6_ticksToCommit wsX2_ticksUntilCommitted := goodIn_r _ [16, 17, 18, 19, 20, 21, 22, 23, 24, 25, 26, 27, 28, 29, 30, 31, 32, 33, 34, 35, 36, 37, 38, 39, 40, 41, 42, 43, 44, 50, 51, 52, 53, 54, 55, 56, 57, 58, 59, 60, 61, 62, 63, 64, 65, 66, 67, 68, 69, 70] (by decide +kernel) (by decide +kernel)
set_option maxRecDepth 20000 in
theorem gX6_ticksToCommit_X2_ticksUntilCommitted : GoodIn wsX6_ticksToCommit (wsV RX6 249 RX2 yX2_ticksUntilCommitted wsX2_ticksUntilCommitted) := goodIn_app (goodIn_of _ (by decide +kernel)) ggX6_ticksToCommit_X2_ticksUntilCommitted
theorem dX6_ticksToCommit_0 : decode cX6_ticksToCommit 0 = .ok (.aload_n 0, 1) := by decide +kernel
theorem dX6_ticksToCommit_1 : decode cX6_ticksToCommit 1 = .ok (.iload_n 1, 1) := by decide +kernel
theorem dX6_ticksToCommit_2 : decode cX6_ticksToCommit 2 = .ok (.invokevirtual 61, 3) := by decide +kernel
theorem dX6_ticksToCommit_5 : decode cX6_ticksToCommit 5 = .ok (.aload_n 0, 1) := by decide +kernel
theorem dX6_ticksToCommit_6 : decode cX6_ticksToCommit 6 = .ok (.getfield 10, 3) := by decide +kernel
theorem dX6_ticksToCommit_9 : decode cX6_ticksToCommit 9 = .ok (.getfield 185, 3) := by decide +kernel
theorem dX6_ticksToCommit_12 : decode cX6_ticksToCommit 12 = .ok (.getfield 228, 3) := by decide +kernel
theorem dX6_ticksToCommit_15 : decode cX6_ticksToCommit 15 = .ok (.iload_n 1, 1) := by decide +kernel
theorem dX6_ticksToCommit_16 : decode cX6_ticksToCommit 16 = .ok (.iaload, 1) := by decide +kernel
theorem dX6_ticksToCommit_17 : decode cX6_ticksToCommit 17 = .ok (.iconst 2, 1) := by decide +kernel
theorem dX6_ticksToCommit_18 : decode cX6_ticksToCommit 18 = .ok (.if_icmp .ne 5, 3) := by decide +kernel
theorem dX6_ticksToCommit_21 : decode cX6_ticksToCommit 21 = .ok (.iconst 0, 1) := by decide +kernel
theorem dX6_ticksToCommit_22 : decode cX6_ticksToCommit 22 = .ok (.ireturn, 1) := by decide +kernel
theorem dX6_ticksToCommit_23 : decode cX6_ticksToCommit 23 = .ok (.aload_n 0, 1) := by decide +kernel
theorem dX6_ticksToCommit_24 : decode cX6_ticksToCommit 24 = .ok (.getfield 10, 3) := by decide +kernel
theorem dX6_ticksToCommit_27 : decode cX6_ticksToCommit 27 = .ok (.getfield 185, 3) := by decide +kernel
theorem dX6_ticksToCommit_30 : decode cX6_ticksToCommit 30 = .ok (.getfield 228, 3) := by decide +kernel
theorem dX6_ticksToCommit_33 : decode cX6_ticksToCommit 33 = .ok (.iload_n 1, 1) := by decide +kernel
theorem dX6_ticksToCommit_34 : decode cX6_ticksToCommit 34 = .ok (.iaload, 1) := by decide +kernel
theorem dX6_ticksToCommit_35 : decode cX6_ticksToCommit 35 = .ok (.iconst 1, 1) := by decide +kernel
theorem dX6_ticksToCommit_36 : decode cX6_ticksToCommit 36 = .ok (.if_icmp .eq 5, 3) := by decide +kernel
theorem dX6_ticksToCommit_39 : decode cX6_ticksToCommit 39 = .ok (.iconst (-1), 1) := by decide +kernel
theorem dX6_ticksToCommit_40 : decode cX6_ticksToCommit 40 = .ok (.ireturn, 1) := by decide +kernel
theorem dX6_ticksToCommit_41 : decode cX6_ticksToCommit 41 = .ok (.aload_n 0, 1) := by decide +kernel
theorem dX6_ticksToCommit_42 : decode cX6_ticksToCommit 42 = .ok (.getfield 10, 3) := by decide +kernel
theorem dX6_ticksToCommit_45 : decode cX6_ticksToCommit 45 = .ok (.iload_n 1, 1) := by decide +kernel
theorem dX6_ticksToCommit_46 : decode cX6_ticksToCommit 46 = .ok (.sipush 10000, 3) := by decide +kernel
theorem dX6_ticksToCommit_49 : decode cX6_ticksToCommit 49 = .ok (.invokevirtual 249, 3) := by decide +kernel
theorem dX6_ticksToCommit_52 : decode cX6_ticksToCommit 52 = .ok (.istore_n 2, 1) := by decide +kernel
theorem dX6_ticksToCommit_53 : decode cX6_ticksToCommit 53 = .ok (.iload_n 2, 1) := by decide +kernel
theorem dX6_ticksToCommit_54 : decode cX6_ticksToCommit 54 = .ok (.sipush 10000, 3) := by decide +kernel
theorem dX6_ticksToCommit_57 : decode cX6_ticksToCommit 57 = .ok (.if_icmp .le 7, 3) := by decide +kernel
theorem dX6_ticksToCommit_60 : decode cX6_ticksToCommit 60 = .ok (.iconst (-1), 1) := by decide +kernel
theorem dX6_ticksToCommit_61 : decode cX6_ticksToCommit 61 = .ok (.goto 4, 3) := by decide +kernel
theorem dX6_ticksToCommit_64 : decode cX6_ticksToCommit 64 = .ok (.iload_n 2, 1) := by decide +kernel
theorem dX6_ticksToCommit_65 : decode cX6_ticksToCommit 65 = .ok (.ireturn, 1) := by decide +kernel
set_option maxRecDepth 20000 in
theorem ggX6_versions_X6_requireKey : GoodIn wsX6_versions wsX6_requireKey := goodIn_ca (goodIn_r _ [8, 9, 10] (by decide +kernel) (by decide +kernel)) (goodIn_sub (fun _ h => List.mem_cons_of_mem _ (List.mem_append_right _ h)) (by decide +kernel))
set_option maxRecDepth 20000 in
theorem gX6_versions_X6_requireKey : GoodIn wsX6_versions (wsV RX6 64 RX6 yX6_requireKey wsX6_requireKey) := goodIn_app (goodIn_of _ (by decide +kernel)) ggX6_versions_X6_requireKey
theorem dX6_versions_0 : decode cX6_versions 0 = .ok (.aload_n 0, 1) := by decide +kernel
theorem dX6_versions_1 : decode cX6_versions 1 = .ok (.iload_n 1, 1) := by decide +kernel
theorem dX6_versions_2 : decode cX6_versions 2 = .ok (.invokevirtual 64, 3) := by decide +kernel
theorem dX6_versions_5 : decode cX6_versions 5 = .ok (.aload_n 0, 1) := by decide +kernel
theorem dX6_versions_6 : decode cX6_versions 6 = .ok (.getfield 10, 3) := by decide +kernel
theorem dX6_versions_9 : decode cX6_versions 9 = .ok (.getfield 140, 3) := by decide +kernel
theorem dX6_versions_12 : decode cX6_versions 12 = .ok (.getfield 252, 3) := by decide +kernel
theorem dX6_versions_15 : decode cX6_versions 15 = .ok (.iload_n 1, 1) := by decide +kernel
theorem dX6_versions_16 : decode cX6_versions 16 = .ok (.iaload, 1) := by decide +kernel
theorem dX6_versions_17 : decode cX6_versions 17 = .ok (.ireturn, 1) := by decide +kernel
set_option maxRecDepth 20000 in
theorem ggX6_versionTimestamp_X6_requireKey : GoodIn wsX6_versionTimestamp wsX6_requireKey := goodIn_ca (goodIn_r _ [10, 1, 2] (by decide +kernel) (by decide +kernel)) (goodIn_sub (fun _ h => List.mem_cons_of_mem _ (List.mem_append_right _ h)) (by decide +kernel))
set_option maxRecDepth 20000 in
theorem gX6_versionTimestamp_X6_requireKey : GoodIn wsX6_versionTimestamp (wsV RX6 64 RX6 yX6_requireKey wsX6_requireKey) := goodIn_app (goodIn_of _ (by decide +kernel)) ggX6_versionTimestamp_X6_requireKey
set_option maxRecDepth 20000 in
theorem ggX6_versionTimestamp_X5_timestampOf : GoodIn wsX6_versionTimestamp wsX5_timestampOf := goodIn_r _ [15, 16, 28, 29, 30] (by decide +kernel) (by decide +kernel)
set_option maxRecDepth 20000 in
theorem gX6_versionTimestamp_X5_timestampOf : GoodIn wsX6_versionTimestamp (wsV RX6 246 RX5 yX5_timestampOf wsX5_timestampOf) := goodIn_app (goodIn_of _ (by decide +kernel)) ggX6_versionTimestamp_X5_timestampOf
theorem dX6_versionTimestamp_0 : decode cX6_versionTimestamp 0 = .ok (.aload_n 0, 1) := by decide +kernel
theorem dX6_versionTimestamp_1 : decode cX6_versionTimestamp 1 = .ok (.iload_n 1, 1) := by decide +kernel
theorem dX6_versionTimestamp_2 : decode cX6_versionTimestamp 2 = .ok (.invokevirtual 64, 3) := by decide +kernel
theorem dX6_versionTimestamp_5 : decode cX6_versionTimestamp 5 = .ok (.iload_n 2, 1) := by decide +kernel
theorem dX6_versionTimestamp_6 : decode cX6_versionTimestamp 6 = .ok (.ifCond .lt 19, 3) := by decide +kernel
theorem dX6_versionTimestamp_9 : decode cX6_versionTimestamp 9 = .ok (.iload_n 2, 1) := by decide +kernel
theorem dX6_versionTimestamp_10 : decode cX6_versionTimestamp 10 = .ok (.aload_n 0, 1) := by decide +kernel
theorem dX6_versionTimestamp_11 : decode cX6_versionTimestamp 11 = .ok (.getfield 10, 3) := by decide +kernel
theorem dX6_versionTimestamp_14 : decode cX6_versionTimestamp 14 = .ok (.getfield 140, 3) := by decide +kernel
theorem dX6_versionTimestamp_17 : decode cX6_versionTimestamp 17 = .ok (.getfield 252, 3) := by decide +kernel
theorem dX6_versionTimestamp_20 : decode cX6_versionTimestamp 20 = .ok (.iload_n 1, 1) := by decide +kernel
theorem dX6_versionTimestamp_21 : decode cX6_versionTimestamp 21 = .ok (.iaload, 1) := by decide +kernel
theorem dX6_versionTimestamp_22 : decode cX6_versionTimestamp 22 = .ok (.if_icmp .lt 14, 3) := by decide +kernel
theorem dX6_versionTimestamp_25 : decode cX6_versionTimestamp 25 = .ok (.new 254, 3) := by decide +kernel
theorem dX6_versionTimestamp_28 : decode cX6_versionTimestamp 28 = .ok (.dup, 1) := by decide +kernel
theorem dX6_versionTimestamp_29 : decode cX6_versionTimestamp 29 = .ok (.ldc_w 256, 3) := by decide +kernel
theorem dX6_versionTimestamp_32 : decode cX6_versionTimestamp 32 = .ok (.invokespecial 258, 3) := by decide +kernel
theorem dX6_versionTimestamp_35 : decode cX6_versionTimestamp 35 = .ok (.athrow, 1) := by decide +kernel
theorem dX6_versionTimestamp_36 : decode cX6_versionTimestamp 36 = .ok (.aload_n 0, 1) := by decide +kernel
theorem dX6_versionTimestamp_37 : decode cX6_versionTimestamp 37 = .ok (.getfield 10, 3) := by decide +kernel
theorem dX6_versionTimestamp_40 : decode cX6_versionTimestamp 40 = .ok (.getfield 140, 3) := by decide +kernel
theorem dX6_versionTimestamp_43 : decode cX6_versionTimestamp 43 = .ok (.iload_n 1, 1) := by decide +kernel
theorem dX6_versionTimestamp_44 : decode cX6_versionTimestamp 44 = .ok (.iload_n 2, 1) := by decide +kernel
theorem dX6_versionTimestamp_45 : decode cX6_versionTimestamp 45 = .ok (.invokevirtual 246, 3) := by decide +kernel
theorem dX6_versionTimestamp_48 : decode cX6_versionTimestamp 48 = .ok (.ireturn, 1) := by decide +kernel
set_option maxRecDepth 20000 in
theorem ggX6_valueAt_X6_requireKey : GoodIn wsX6_valueAt wsX6_requireKey := goodIn_ca (goodIn_r _ [7, 8, 9] (by decide +kernel) (by decide +kernel)) (goodIn_sub (fun _ h => List.mem_cons_of_mem _ (List.mem_append_left _ (List.mem_append_right _ h))) (by decide +kernel))
set_option maxRecDepth 20000 in
theorem gX6_valueAt_X6_requireKey : GoodIn wsX6_valueAt (wsV RX6 64 RX6 yX6_requireKey wsX6_requireKey) := goodIn_app (goodIn_of _ (by decide +kernel)) ggX6_valueAt_X6_requireKey
set_option maxRecDepth 20000 in
theorem ggX6_valueAt_X6_requireNotNegative : GoodIn wsX6_valueAt wsX6_requireNotNegative := goodIn_ca (goodIn_r _ [13, 14, 15] (by decide +kernel) (by decide +kernel)) (goodIn_sub (fun _ h => List.mem_cons_of_mem _ (List.mem_append_right _ h)) (by decide +kernel))
set_option maxRecDepth 20000 in
theorem gX6_valueAt_X6_requireNotNegative : GoodIn wsX6_valueAt (wsV RX6 123 RX6 yX6_requireNotNegative wsX6_requireNotNegative) := goodIn_app (goodIn_of _ (by decide +kernel)) ggX6_valueAt_X6_requireNotNegative
set_option maxRecDepth 20000 in
theorem ggX6_valueAt_X5_valueOf : GoodIn wsX6_valueAt wsX5_valueOf := goodIn_r _ [20, 21, 22, 23, 19, 24, 25, 26, 27, 28, 29, 30, 31, 32, 33, 34, 35, 47, 48, 49] (by decide +kernel) (by decide +kernel)
set_option maxRecDepth 20000 in
theorem gX6_valueAt_X5_valueOf : GoodIn wsX6_valueAt (wsV RX6 144 RX5 yX5_valueOf wsX5_valueOf) := goodIn_app (goodIn_of _ (by decide +kernel)) ggX6_valueAt_X5_valueOf
theorem dX6_valueAt_0 : decode cX6_valueAt 0 = .ok (.aload_n 0, 1) := by decide +kernel
theorem dX6_valueAt_1 : decode cX6_valueAt 1 = .ok (.iload_n 1, 1) := by decide +kernel
theorem dX6_valueAt_2 : decode cX6_valueAt 2 = .ok (.invokevirtual 64, 3) := by decide +kernel
theorem dX6_valueAt_5 : decode cX6_valueAt 5 = .ok (.aload_n 0, 1) := by decide +kernel
theorem dX6_valueAt_6 : decode cX6_valueAt 6 = .ok (.iload_n 2, 1) := by decide +kernel
theorem dX6_valueAt_7 : decode cX6_valueAt 7 = .ok (.invokevirtual 123, 3) := by decide +kernel
theorem dX6_valueAt_10 : decode cX6_valueAt 10 = .ok (.aload_n 0, 1) := by decide +kernel
theorem dX6_valueAt_11 : decode cX6_valueAt 11 = .ok (.getfield 10, 3) := by decide +kernel
theorem dX6_valueAt_14 : decode cX6_valueAt 14 = .ok (.getfield 140, 3) := by decide +kernel
theorem dX6_valueAt_17 : decode cX6_valueAt 17 = .ok (.iload_n 1, 1) := by decide +kernel
theorem dX6_valueAt_18 : decode cX6_valueAt 18 = .ok (.iload_n 2, 1) := by decide +kernel
theorem dX6_valueAt_19 : decode cX6_valueAt 19 = .ok (.invokevirtual 144, 3) := by decide +kernel
theorem dX6_valueAt_22 : decode cX6_valueAt 22 = .ok (.ireturn, 1) := by decide +kernel
set_option maxRecDepth 20000 in
theorem ggX6_replayedValueAt_X6_requireKey : GoodIn wsX6_replayedValueAt wsX6_requireKey := goodIn_ca (goodIn_r _ [7, 8, 9] (by decide +kernel) (by decide +kernel)) (goodIn_sub (fun _ h => List.mem_cons_of_mem _ (List.mem_append_left _ (List.mem_append_right _ h))) (by decide +kernel))
set_option maxRecDepth 20000 in
theorem gX6_replayedValueAt_X6_requireKey : GoodIn wsX6_replayedValueAt (wsV RX6 64 RX6 yX6_requireKey wsX6_requireKey) := goodIn_app (goodIn_of _ (by decide +kernel)) ggX6_replayedValueAt_X6_requireKey
set_option maxRecDepth 20000 in
theorem ggX6_replayedValueAt_X6_requireNotNegative : GoodIn wsX6_replayedValueAt wsX6_requireNotNegative := goodIn_ca (goodIn_r _ [13, 14, 15] (by decide +kernel) (by decide +kernel)) (goodIn_sub (fun _ h => List.mem_cons_of_mem _ (List.mem_append_right _ h)) (by decide +kernel))
set_option maxRecDepth 20000 in
theorem gX6_replayedValueAt_X6_requireNotNegative : GoodIn wsX6_replayedValueAt (wsV RX6 123 RX6 yX6_requireNotNegative wsX6_requireNotNegative) := goodIn_app (goodIn_of _ (by decide +kernel)) ggX6_replayedValueAt_X6_requireNotNegative
set_option maxRecDepth 20000 in
theorem ggX6_replayedValueAt_X4_replay : GoodIn wsX6_replayedValueAt wsX4_replay := goodIn_r _ [20, 21, 22, 23, 24, 25, 26, 19, 27, 28, 29, 30, 31, 32, 44, 45, 46, 47, 48, 49, 50, 51] (by decide +kernel) (by decide +kernel)
set_option maxRecDepth 20000 in
theorem gX6_replayedValueAt_X4_replay : GoodIn wsX6_replayedValueAt (wsV RX6 259 RX4 yX4_replay wsX4_replay) := goodIn_app (goodIn_of _ (by decide +kernel)) ggX6_replayedValueAt_X4_replay
theorem dX6_replayedValueAt_0 : decode cX6_replayedValueAt 0 = .ok (.aload_n 0, 1) := by decide +kernel
theorem dX6_replayedValueAt_1 : decode cX6_replayedValueAt 1 = .ok (.iload_n 1, 1) := by decide +kernel
theorem dX6_replayedValueAt_2 : decode cX6_replayedValueAt 2 = .ok (.invokevirtual 64, 3) := by decide +kernel
theorem dX6_replayedValueAt_5 : decode cX6_replayedValueAt 5 = .ok (.aload_n 0, 1) := by decide +kernel
theorem dX6_replayedValueAt_6 : decode cX6_replayedValueAt 6 = .ok (.iload_n 2, 1) := by decide +kernel
theorem dX6_replayedValueAt_7 : decode cX6_replayedValueAt 7 = .ok (.invokevirtual 123, 3) := by decide +kernel
theorem dX6_replayedValueAt_10 : decode cX6_replayedValueAt 10 = .ok (.aload_n 0, 1) := by decide +kernel
theorem dX6_replayedValueAt_11 : decode cX6_replayedValueAt 11 = .ok (.getfield 10, 3) := by decide +kernel
theorem dX6_replayedValueAt_14 : decode cX6_replayedValueAt 14 = .ok (.getfield 185, 3) := by decide +kernel
theorem dX6_replayedValueAt_17 : decode cX6_replayedValueAt 17 = .ok (.iload_n 1, 1) := by decide +kernel
theorem dX6_replayedValueAt_18 : decode cX6_replayedValueAt 18 = .ok (.iload_n 2, 1) := by decide +kernel
theorem dX6_replayedValueAt_19 : decode cX6_replayedValueAt 19 = .ok (.invokevirtual 259, 3) := by decide +kernel
theorem dX6_replayedValueAt_22 : decode cX6_replayedValueAt 22 = .ok (.ireturn, 1) := by decide +kernel
set_option maxRecDepth 20000 in
theorem ggX6_waitingWriter_X6_requireKey : GoodIn wsX6_waitingWriter wsX6_requireKey := goodIn_ca (goodIn_r _ [7, 8, 9] (by decide +kernel) (by decide +kernel)) (goodIn_sub (fun _ h => List.mem_cons_of_mem _ (List.mem_append_right _ h)) (by decide +kernel))
set_option maxRecDepth 20000 in
theorem gX6_waitingWriter_X6_requireKey : GoodIn wsX6_waitingWriter (wsV RX6 64 RX6 yX6_requireKey wsX6_requireKey) := goodIn_app (goodIn_of _ (by decide +kernel)) ggX6_waitingWriter_X6_requireKey
set_option maxRecDepth 20000 in
theorem ggX6_waitingWriter_X4_findWaitingWriter : GoodIn wsX6_waitingWriter wsX4_findWaitingWriter := goodIn_r _ [14, 15, 16, 17, 18, 19, 13, 20, 21, 33, 34, 35, 36, 37, 38, 39, 40] (by decide +kernel) (by decide +kernel)
set_option maxRecDepth 20000 in
theorem gX6_waitingWriter_X4_findWaitingWriter : GoodIn wsX6_waitingWriter (wsV RX6 262 RX4 yX4_findWaitingWriter wsX4_findWaitingWriter) := goodIn_app (goodIn_of _ (by decide +kernel)) ggX6_waitingWriter_X4_findWaitingWriter
theorem dX6_waitingWriter_0 : decode cX6_waitingWriter 0 = .ok (.aload_n 0, 1) := by decide +kernel
theorem dX6_waitingWriter_1 : decode cX6_waitingWriter 1 = .ok (.iload_n 1, 1) := by decide +kernel
theorem dX6_waitingWriter_2 : decode cX6_waitingWriter 2 = .ok (.invokevirtual 64, 3) := by decide +kernel
theorem dX6_waitingWriter_5 : decode cX6_waitingWriter 5 = .ok (.aload_n 0, 1) := by decide +kernel
theorem dX6_waitingWriter_6 : decode cX6_waitingWriter 6 = .ok (.getfield 10, 3) := by decide +kernel
theorem dX6_waitingWriter_9 : decode cX6_waitingWriter 9 = .ok (.getfield 185, 3) := by decide +kernel
theorem dX6_waitingWriter_12 : decode cX6_waitingWriter 12 = .ok (.iload_n 1, 1) := by decide +kernel
theorem dX6_waitingWriter_13 : decode cX6_waitingWriter 13 = .ok (.invokevirtual 262, 3) := by decide +kernel
theorem dX6_waitingWriter_16 : decode cX6_waitingWriter 16 = .ok (.ireturn, 1) := by decide +kernel
set_option maxRecDepth 20000 in
theorem ggX6_readerMark_X6_requireKey : GoodIn wsX6_readerMark wsX6_requireKey := goodIn_ca (goodIn_r _ [7, 8, 9] (by decide +kernel) (by decide +kernel)) (goodIn_sub (fun _ h => List.mem_cons_of_mem _ (List.mem_append_right _ h)) (by decide +kernel))
set_option maxRecDepth 20000 in
theorem gX6_readerMark_X6_requireKey : GoodIn wsX6_readerMark (wsV RX6 64 RX6 yX6_requireKey wsX6_requireKey) := goodIn_app (goodIn_of _ (by decide +kernel)) ggX6_readerMark_X6_requireKey
set_option maxRecDepth 20000 in
theorem ggX6_readerMark_X4_greatestReaderTimestamp : GoodIn wsX6_readerMark wsX4_greatestReaderTimestamp := goodIn_r _ [14, 15, 16, 17, 18, 19, 20, 21, 22, 23, 24, 13, 25, 26, 38, 39, 40, 41, 42, 43, 44, 45] (by decide +kernel) (by decide +kernel)
set_option maxRecDepth 20000 in
theorem gX6_readerMark_X4_greatestReaderTimestamp : GoodIn wsX6_readerMark (wsV RX6 265 RX4 yX4_greatestReaderTimestamp wsX4_greatestReaderTimestamp) := goodIn_app (goodIn_of _ (by decide +kernel)) ggX6_readerMark_X4_greatestReaderTimestamp
theorem dX6_readerMark_0 : decode cX6_readerMark 0 = .ok (.aload_n 0, 1) := by decide +kernel
theorem dX6_readerMark_1 : decode cX6_readerMark 1 = .ok (.iload_n 1, 1) := by decide +kernel
theorem dX6_readerMark_2 : decode cX6_readerMark 2 = .ok (.invokevirtual 64, 3) := by decide +kernel
theorem dX6_readerMark_5 : decode cX6_readerMark 5 = .ok (.aload_n 0, 1) := by decide +kernel
theorem dX6_readerMark_6 : decode cX6_readerMark 6 = .ok (.getfield 10, 3) := by decide +kernel
theorem dX6_readerMark_9 : decode cX6_readerMark 9 = .ok (.getfield 185, 3) := by decide +kernel
theorem dX6_readerMark_12 : decode cX6_readerMark 12 = .ok (.iload_n 1, 1) := by decide +kernel
theorem dX6_readerMark_13 : decode cX6_readerMark 13 = .ok (.invokevirtual 265, 3) := by decide +kernel
theorem dX6_readerMark_16 : decode cX6_readerMark 16 = .ok (.ireturn, 1) := by decide +kernel
set_option maxRecDepth 20000 in
theorem ggX6_safeTime_X2_safeTimeNow : GoodIn wsX6_safeTime wsX2_safeTimeNow := goodIn_r _ [6, 7, 8, 9, 10, 11, 12, 13, 14, 15, 16, 17, 5, 18, 19, 20, 21, 22, 23, 24, 25, 26, 27, 28, 29, 30, 31, 32, 33, 34, 35, 36, 37, 38, 39, 40, 41, 42, 43, 44, 45, 46, 47, 48, 54, 55, 56, 57, 58, 59, 60, 61, 62, 63, 64, 65, 66, 67, 68, 69, 70, 71, 72, 73, 74] (by decide +kernel) (by decide +kernel)
set_option maxRecDepth 20000 in
theorem gX6_safeTime_X2_safeTimeNow : GoodIn wsX6_safeTime (wsV RX6 126 RX2 yX2_safeTimeNow wsX2_safeTimeNow) := goodIn_app (goodIn_of _ (by decide +kernel)) ggX6_safeTime_X2_safeTimeNow
theorem dX6_safeTime_0 : decode cX6_safeTime 0 = .ok (.aload_n 0, 1) := by decide +kernel
theorem dX6_safeTime_1 : decode cX6_safeTime 1 = .ok (.getfield 10, 3) := by decide +kernel
theorem dX6_safeTime_4 : decode cX6_safeTime 4 = .ok (.invokevirtual 126, 3) := by decide +kernel
theorem dX6_safeTime_7 : decode cX6_safeTime 7 = .ok (.ireturn, 1) := by decide +kernel
theorem dX6_readFloor_0 : decode cX6_readFloor 0 = .ok (.aload_n 0, 1) := by decide +kernel
theorem dX6_readFloor_1 : decode cX6_readFloor 1 = .ok (.getfield 10, 3) := by decide +kernel
theorem dX6_readFloor_4 : decode cX6_readFloor 4 = .ok (.getfield 132, 3) := by decide +kernel
theorem dX6_readFloor_7 : decode cX6_readFloor 7 = .ok (.ireturn, 1) := by decide +kernel
set_option maxRecDepth 20000 in
theorem ggX6_ticksUntilSafe_X6_requireNotNegative : GoodIn wsX6_ticksUntilSafe wsX6_requireNotNegative := goodIn_ca (goodIn_r _ [6, 7, 8] (by decide +kernel) (by decide +kernel)) (goodIn_sub (fun _ h => List.mem_cons_of_mem _ (List.mem_append_right _ h)) (by decide +kernel))
set_option maxRecDepth 20000 in
theorem gX6_ticksUntilSafe_X6_requireNotNegative : GoodIn wsX6_ticksUntilSafe (wsV RX6 123 RX6 yX6_requireNotNegative wsX6_requireNotNegative) := goodIn_app (goodIn_of _ (by decide +kernel)) ggX6_ticksUntilSafe_X6_requireNotNegative
set_option maxRecDepth 20000 in
theorem ggX6_ticksUntilSafe_X2_ticksUntilSafeAt : GoodIn wsX6_ticksUntilSafe wsX2_ticksUntilSafeAt := goodIn_r _ [13, 14, 15, 16, 17, 18, 19, 20, 21, 22, 23, 24, 25, 26, 12, 27, 28, 29, 30, 31, 32, 33, 34, 35, 36, 37, 38, 39, 40, 41, 42, 43, 44, 45, 46, 47, 48, 49, 50, 51, 52, 53, 54, 55, 56, 57, 58, 59, 60, 61, 62, 63, 64, 65, 66, 67, 73, 74, 75, 76, 77, 78, 79, 80, 81, 82, 83, 84, 85, 86, 87, 88, 89, 90, 91, 92, 93] (by decide +kernel) (by decide +kernel)
set_option maxRecDepth 20000 in
theorem gX6_ticksUntilSafe_X2_ticksUntilSafeAt : GoodIn wsX6_ticksUntilSafe (wsV RX6 268 RX2 yX2_ticksUntilSafeAt wsX2_ticksUntilSafeAt) := goodIn_app (goodIn_of _ (by decide +kernel)) ggX6_ticksUntilSafe_X2_ticksUntilSafeAt
theorem dX6_ticksUntilSafe_0 : decode cX6_ticksUntilSafe 0 = .ok (.aload_n 0, 1) := by decide +kernel
theorem dX6_ticksUntilSafe_1 : decode cX6_ticksUntilSafe 1 = .ok (.iload_n 1, 1) := by decide +kernel
theorem dX6_ticksUntilSafe_2 : decode cX6_ticksUntilSafe 2 = .ok (.invokevirtual 123, 3) := by decide +kernel
theorem dX6_ticksUntilSafe_5 : decode cX6_ticksUntilSafe 5 = .ok (.aload_n 0, 1) := by decide +kernel
theorem dX6_ticksUntilSafe_6 : decode cX6_ticksUntilSafe 6 = .ok (.getfield 10, 3) := by decide +kernel
theorem dX6_ticksUntilSafe_9 : decode cX6_ticksUntilSafe 9 = .ok (.iload_n 1, 1) := by decide +kernel
theorem dX6_ticksUntilSafe_10 : decode cX6_ticksUntilSafe 10 = .ok (.sipush 10000, 3) := by decide +kernel
theorem dX6_ticksUntilSafe_13 : decode cX6_ticksUntilSafe 13 = .ok (.invokevirtual 268, 3) := by decide +kernel
theorem dX6_ticksUntilSafe_16 : decode cX6_ticksUntilSafe 16 = .ok (.istore_n 2, 1) := by decide +kernel
theorem dX6_ticksUntilSafe_17 : decode cX6_ticksUntilSafe 17 = .ok (.iload_n 2, 1) := by decide +kernel
theorem dX6_ticksUntilSafe_18 : decode cX6_ticksUntilSafe 18 = .ok (.sipush 10000, 3) := by decide +kernel
theorem dX6_ticksUntilSafe_21 : decode cX6_ticksUntilSafe 21 = .ok (.if_icmp .le 7, 3) := by decide +kernel
theorem dX6_ticksUntilSafe_24 : decode cX6_ticksUntilSafe 24 = .ok (.iconst (-1), 1) := by decide +kernel
theorem dX6_ticksUntilSafe_25 : decode cX6_ticksUntilSafe 25 = .ok (.goto 4, 3) := by decide +kernel
theorem dX6_ticksUntilSafe_28 : decode cX6_ticksUntilSafe 28 = .ok (.iload_n 2, 1) := by decide +kernel
theorem dX6_ticksUntilSafe_29 : decode cX6_ticksUntilSafe 29 = .ok (.ireturn, 1) := by decide +kernel
set_option maxRecDepth 20000 in
theorem ggX6_countInState_X6_requireRange : GoodIn wsX6_countInState wsX6_requireRange := goodIn_ca (goodIn_r _ [7, 8, 9] (by decide +kernel) (by decide +kernel)) (goodIn_sub (fun _ h => List.mem_cons_of_mem _ (List.mem_append_right _ h)) (by decide +kernel))
set_option maxRecDepth 20000 in
theorem gX6_countInState_X6_requireRange : GoodIn wsX6_countInState (wsV RX6 74 RX6 yX6_requireRange wsX6_requireRange) := goodIn_app (goodIn_of _ (by decide +kernel)) ggX6_countInState_X6_requireRange
set_option maxRecDepth 20000 in
theorem ggX6_countInState_X4_countWithStatus : GoodIn wsX6_countInState wsX4_countWithStatus := goodIn_r _ [14, 15, 16, 28, 29, 30, 31, 32, 33, 34, 35] (by decide +kernel) (by decide +kernel)
set_option maxRecDepth 20000 in
theorem gX6_countInState_X4_countWithStatus : GoodIn wsX6_countInState (wsV RX6 271 RX4 yX4_countWithStatus wsX4_countWithStatus) := goodIn_app (goodIn_of _ (by decide +kernel)) ggX6_countInState_X4_countWithStatus
theorem dX6_countInState_0 : decode cX6_countInState 0 = .ok (.aload_n 0, 1) := by decide +kernel
theorem dX6_countInState_1 : decode cX6_countInState 1 = .ok (.iload_n 1, 1) := by decide +kernel
theorem dX6_countInState_2 : decode cX6_countInState 2 = .ok (.iconst 0, 1) := by decide +kernel
theorem dX6_countInState_3 : decode cX6_countInState 3 = .ok (.iconst 3, 1) := by decide +kernel
theorem dX6_countInState_4 : decode cX6_countInState 4 = .ok (.invokevirtual 74, 3) := by decide +kernel
theorem dX6_countInState_7 : decode cX6_countInState 7 = .ok (.aload_n 0, 1) := by decide +kernel
theorem dX6_countInState_8 : decode cX6_countInState 8 = .ok (.getfield 10, 3) := by decide +kernel
theorem dX6_countInState_11 : decode cX6_countInState 11 = .ok (.getfield 185, 3) := by decide +kernel
theorem dX6_countInState_14 : decode cX6_countInState 14 = .ok (.iload_n 1, 1) := by decide +kernel
theorem dX6_countInState_15 : decode cX6_countInState 15 = .ok (.invokevirtual 271, 3) := by decide +kernel
theorem dX6_countInState_18 : decode cX6_countInState 18 = .ok (.ireturn, 1) := by decide +kernel
set_option maxRecDepth 20000 in
theorem ggX6_totalWait_X4_sumOfWaits : GoodIn wsX6_totalWait wsX4_sumOfWaits := goodIn_r _ [7, 8, 9, 10, 11, 23, 24, 25, 26, 27, 28, 29, 30] (by decide +kernel) (by decide +kernel)
set_option maxRecDepth 20000 in
theorem gX6_totalWait_X4_sumOfWaits : GoodIn wsX6_totalWait (wsV RX6 274 RX4 yX4_sumOfWaits wsX4_sumOfWaits) := goodIn_app (goodIn_of _ (by decide +kernel)) ggX6_totalWait_X4_sumOfWaits
theorem dX6_totalWait_0 : decode cX6_totalWait 0 = .ok (.aload_n 0, 1) := by decide +kernel
theorem dX6_totalWait_1 : decode cX6_totalWait 1 = .ok (.getfield 10, 3) := by decide +kernel
theorem dX6_totalWait_4 : decode cX6_totalWait 4 = .ok (.getfield 185, 3) := by decide +kernel
theorem dX6_totalWait_7 : decode cX6_totalWait 7 = .ok (.invokevirtual 274, 3) := by decide +kernel
theorem dX6_totalWait_10 : decode cX6_totalWait 10 = .ok (.ireturn, 1) := by decide +kernel
theorem dX6_unsoundUses_0 : decode cX6_unsoundUses 0 = .ok (.aload_n 0, 1) := by decide +kernel
theorem dX6_unsoundUses_1 : decode cX6_unsoundUses 1 = .ok (.getfield 10, 3) := by decide +kernel
theorem dX6_unsoundUses_4 : decode cX6_unsoundUses 4 = .ok (.getfield 277, 3) := by decide +kernel
theorem dX6_unsoundUses_7 : decode cX6_unsoundUses 7 = .ok (.ireturn, 1) := by decide +kernel
set_option maxRecDepth 20000 in
theorem ggX6_inversions_X4_countInversions : GoodIn wsX6_inversions wsX4_countInversions := goodIn_r _ [7, 8, 9, 10, 11, 6, 12, 13, 14, 15, 16, 28, 29, 30, 31, 32, 33, 34, 35] (by decide +kernel) (by decide +kernel)
set_option maxRecDepth 20000 in
theorem gX6_inversions_X4_countInversions : GoodIn wsX6_inversions (wsV RX6 280 RX4 yX4_countInversions wsX4_countInversions) := goodIn_app (goodIn_of _ (by decide +kernel)) ggX6_inversions_X4_countInversions
theorem dX6_inversions_0 : decode cX6_inversions 0 = .ok (.aload_n 0, 1) := by decide +kernel
theorem dX6_inversions_1 : decode cX6_inversions 1 = .ok (.getfield 10, 3) := by decide +kernel
theorem dX6_inversions_4 : decode cX6_inversions 4 = .ok (.getfield 185, 3) := by decide +kernel
theorem dX6_inversions_7 : decode cX6_inversions 7 = .ok (.invokevirtual 280, 3) := by decide +kernel
theorem dX6_inversions_10 : decode cX6_inversions 10 = .ok (.ireturn, 1) := by decide +kernel
theorem dX6_savedStates_0 : decode cX6_savedStates 0 = .ok (.aload_n 0, 1) := by decide +kernel
theorem dX6_savedStates_1 : decode cX6_savedStates 1 = .ok (.getfield 19, 3) := by decide +kernel
theorem dX6_savedStates_4 : decode cX6_savedStates 4 = .ok (.getfield 194, 3) := by decide +kernel
theorem dX6_savedStates_7 : decode cX6_savedStates 7 = .ok (.ireturn, 1) := by decide +kernel
theorem dX6_textLength_0 : decode cX6_textLength 0 = .ok (.aload_n 0, 1) := by decide +kernel
theorem dX6_textLength_1 : decode cX6_textLength 1 = .ok (.getfield 34, 3) := by decide +kernel
theorem dX6_textLength_4 : decode cX6_textLength 4 = .ok (.getfield 158, 3) := by decide +kernel
theorem dX6_textLength_7 : decode cX6_textLength 7 = .ok (.ireturn, 1) := by decide +kernel
theorem dX6_requireServer_0 : decode cX6_requireServer 0 = .ok (.iload_n 1, 1) := by decide +kernel
theorem dX6_requireServer_1 : decode cX6_requireServer 1 = .ok (.ifCond .lt 8, 3) := by decide +kernel
theorem dX6_requireServer_4 : decode cX6_requireServer 4 = .ok (.iload_n 1, 1) := by decide +kernel
theorem dX6_requireServer_5 : decode cX6_requireServer 5 = .ok (.iconst 3, 1) := by decide +kernel
theorem dX6_requireServer_6 : decode cX6_requireServer 6 = .ok (.if_icmp .lt 14, 3) := by decide +kernel
theorem dX6_requireServer_9 : decode cX6_requireServer 9 = .ok (.new 254, 3) := by decide +kernel
theorem dX6_requireServer_12 : decode cX6_requireServer 12 = .ok (.dup, 1) := by decide +kernel
theorem dX6_requireServer_13 : decode cX6_requireServer 13 = .ok (.ldc_w 283, 3) := by decide +kernel
theorem dX6_requireServer_16 : decode cX6_requireServer 16 = .ok (.invokespecial 258, 3) := by decide +kernel
theorem dX6_requireServer_19 : decode cX6_requireServer 19 = .ok (.athrow, 1) := by decide +kernel
theorem dX6_requireServer_20 : decode cX6_requireServer 20 = .ok (.return_, 1) := by decide +kernel
theorem dX6_requireTransaction_0 : decode cX6_requireTransaction 0 = .ok (.iload_n 1, 1) := by decide +kernel
theorem dX6_requireTransaction_1 : decode cX6_requireTransaction 1 = .ok (.ifCond .lt 17, 3) := by decide +kernel
theorem dX6_requireTransaction_4 : decode cX6_requireTransaction 4 = .ok (.iload_n 1, 1) := by decide +kernel
theorem dX6_requireTransaction_5 : decode cX6_requireTransaction 5 = .ok (.aload_n 0, 1) := by decide +kernel
theorem dX6_requireTransaction_6 : decode cX6_requireTransaction 6 = .ok (.getfield 10, 3) := by decide +kernel
theorem dX6_requireTransaction_9 : decode cX6_requireTransaction 9 = .ok (.getfield 185, 3) := by decide +kernel
theorem dX6_requireTransaction_12 : decode cX6_requireTransaction 12 = .ok (.getfield 225, 3) := by decide +kernel
theorem dX6_requireTransaction_15 : decode cX6_requireTransaction 15 = .ok (.if_icmp .lt 14, 3) := by decide +kernel
theorem dX6_requireTransaction_18 : decode cX6_requireTransaction 18 = .ok (.new 254, 3) := by decide +kernel
theorem dX6_requireTransaction_21 : decode cX6_requireTransaction 21 = .ok (.dup, 1) := by decide +kernel
theorem dX6_requireTransaction_22 : decode cX6_requireTransaction 22 = .ok (.ldc_w 285, 3) := by decide +kernel
theorem dX6_requireTransaction_25 : decode cX6_requireTransaction 25 = .ok (.invokespecial 258, 3) := by decide +kernel
theorem dX6_requireTransaction_28 : decode cX6_requireTransaction 28 = .ok (.athrow, 1) := by decide +kernel
theorem dX6_requireTransaction_29 : decode cX6_requireTransaction 29 = .ok (.return_, 1) := by decide +kernel
theorem dX6_requireKey_0 : decode cX6_requireKey 0 = .ok (.iload_n 1, 1) := by decide +kernel
theorem dX6_requireKey_1 : decode cX6_requireKey 1 = .ok (.ifCond .lt 9, 3) := by decide +kernel
theorem dX6_requireKey_4 : decode cX6_requireKey 4 = .ok (.iload_n 1, 1) := by decide +kernel
theorem dX6_requireKey_5 : decode cX6_requireKey 5 = .ok (.bipush 8, 2) := by decide +kernel
theorem dX6_requireKey_7 : decode cX6_requireKey 7 = .ok (.if_icmp .lt 14, 3) := by decide +kernel
theorem dX6_requireKey_10 : decode cX6_requireKey 10 = .ok (.new 254, 3) := by decide +kernel
theorem dX6_requireKey_13 : decode cX6_requireKey 13 = .ok (.dup, 1) := by decide +kernel
theorem dX6_requireKey_14 : decode cX6_requireKey 14 = .ok (.ldc_w 287, 3) := by decide +kernel
theorem dX6_requireKey_17 : decode cX6_requireKey 17 = .ok (.invokespecial 258, 3) := by decide +kernel
theorem dX6_requireKey_20 : decode cX6_requireKey 20 = .ok (.athrow, 1) := by decide +kernel
theorem dX6_requireKey_21 : decode cX6_requireKey 21 = .ok (.return_, 1) := by decide +kernel
theorem dX6_requireSlot_0 : decode cX6_requireSlot 0 = .ok (.iload_n 1, 1) := by decide +kernel
theorem dX6_requireSlot_1 : decode cX6_requireSlot 1 = .ok (.ifCond .lt 8, 3) := by decide +kernel
theorem dX6_requireSlot_4 : decode cX6_requireSlot 4 = .ok (.iload_n 1, 1) := by decide +kernel
theorem dX6_requireSlot_5 : decode cX6_requireSlot 5 = .ok (.iconst 2, 1) := by decide +kernel
theorem dX6_requireSlot_6 : decode cX6_requireSlot 6 = .ok (.if_icmp .lt 14, 3) := by decide +kernel
theorem dX6_requireSlot_9 : decode cX6_requireSlot 9 = .ok (.new 254, 3) := by decide +kernel
theorem dX6_requireSlot_12 : decode cX6_requireSlot 12 = .ok (.dup, 1) := by decide +kernel
theorem dX6_requireSlot_13 : decode cX6_requireSlot 13 = .ok (.ldc_w 289, 3) := by decide +kernel
theorem dX6_requireSlot_16 : decode cX6_requireSlot 16 = .ok (.invokespecial 258, 3) := by decide +kernel
theorem dX6_requireSlot_19 : decode cX6_requireSlot 19 = .ok (.athrow, 1) := by decide +kernel
theorem dX6_requireSlot_20 : decode cX6_requireSlot 20 = .ok (.return_, 1) := by decide +kernel
theorem dX6_requireRange_0 : decode cX6_requireRange 0 = .ok (.iload_n 1, 1) := by decide +kernel
theorem dX6_requireRange_1 : decode cX6_requireRange 1 = .ok (.iload_n 2, 1) := by decide +kernel
theorem dX6_requireRange_2 : decode cX6_requireRange 2 = .ok (.if_icmp .lt 8, 3) := by decide +kernel
theorem dX6_requireRange_5 : decode cX6_requireRange 5 = .ok (.iload_n 1, 1) := by decide +kernel
theorem dX6_requireRange_6 : decode cX6_requireRange 6 = .ok (.iload_n 3, 1) := by decide +kernel
theorem dX6_requireRange_7 : decode cX6_requireRange 7 = .ok (.if_icmp .le 14, 3) := by decide +kernel
theorem dX6_requireRange_10 : decode cX6_requireRange 10 = .ok (.new 291, 3) := by decide +kernel
theorem dX6_requireRange_13 : decode cX6_requireRange 13 = .ok (.dup, 1) := by decide +kernel
theorem dX6_requireRange_14 : decode cX6_requireRange 14 = .ok (.ldc_w 293, 3) := by decide +kernel
theorem dX6_requireRange_17 : decode cX6_requireRange 17 = .ok (.invokespecial 295, 3) := by decide +kernel
theorem dX6_requireRange_20 : decode cX6_requireRange 20 = .ok (.athrow, 1) := by decide +kernel
theorem dX6_requireRange_21 : decode cX6_requireRange 21 = .ok (.return_, 1) := by decide +kernel
theorem dX6_requireNotNegative_0 : decode cX6_requireNotNegative 0 = .ok (.iload_n 1, 1) := by decide +kernel
theorem dX6_requireNotNegative_1 : decode cX6_requireNotNegative 1 = .ok (.ifCond .ge 14, 3) := by decide +kernel
theorem dX6_requireNotNegative_4 : decode cX6_requireNotNegative 4 = .ok (.new 291, 3) := by decide +kernel
theorem dX6_requireNotNegative_7 : decode cX6_requireNotNegative 7 = .ok (.dup, 1) := by decide +kernel
theorem dX6_requireNotNegative_8 : decode cX6_requireNotNegative 8 = .ok (.ldc_w 296, 3) := by decide +kernel
theorem dX6_requireNotNegative_11 : decode cX6_requireNotNegative 11 = .ok (.invokespecial 295, 3) := by decide +kernel
theorem dX6_requireNotNegative_14 : decode cX6_requireNotNegative 14 = .ok (.athrow, 1) := by decide +kernel
theorem dX6_requireNotNegative_15 : decode cX6_requireNotNegative 15 = .ok (.return_, 1) := by decide +kernel
set_option maxRecDepth 20000 in
theorem ggX6_requireOpen_X4_isOpen : GoodIn wsX6_requireOpen wsX4_isOpen := goodIn_r _ [9, 10, 11, 23, 24, 25, 26, 27, 28, 29, 30] (by decide +kernel) (by decide +kernel)
set_option maxRecDepth 20000 in
theorem gX6_requireOpen_X4_isOpen : GoodIn wsX6_requireOpen (wsV RX6 189 RX4 yX4_isOpen wsX4_isOpen) := goodIn_app (goodIn_of _ (by decide +kernel)) ggX6_requireOpen_X4_isOpen
theorem dX6_requireOpen_0 : decode cX6_requireOpen 0 = .ok (.aload_n 0, 1) := by decide +kernel
theorem dX6_requireOpen_1 : decode cX6_requireOpen 1 = .ok (.getfield 10, 3) := by decide +kernel
theorem dX6_requireOpen_4 : decode cX6_requireOpen 4 = .ok (.getfield 185, 3) := by decide +kernel
theorem dX6_requireOpen_7 : decode cX6_requireOpen 7 = .ok (.iload_n 1, 1) := by decide +kernel
theorem dX6_requireOpen_8 : decode cX6_requireOpen 8 = .ok (.invokevirtual 189, 3) := by decide +kernel
theorem dX6_requireOpen_11 : decode cX6_requireOpen 11 = .ok (.ifCond .ne 14, 3) := by decide +kernel
theorem dX6_requireOpen_14 : decode cX6_requireOpen 14 = .ok (.new 46, 3) := by decide +kernel
theorem dX6_requireOpen_17 : decode cX6_requireOpen 17 = .ok (.dup, 1) := by decide +kernel
theorem dX6_requireOpen_18 : decode cX6_requireOpen 18 = .ok (.ldc_w 298, 3) := by decide +kernel
theorem dX6_requireOpen_21 : decode cX6_requireOpen 21 = .ok (.invokespecial 50, 3) := by decide +kernel
theorem dX6_requireOpen_24 : decode cX6_requireOpen 24 = .ok (.athrow, 1) := by decide +kernel
theorem dX6_requireOpen_25 : decode cX6_requireOpen 25 = .ok (.return_, 1) := by decide +kernel
theorem dX7_init_0 : decode cX7_init 0 = .ok (.aload_n 0, 1) := by decide +kernel
theorem dX7_init_1 : decode cX7_init 1 = .ok (.invokespecial 1, 3) := by decide +kernel
theorem dX7_init_4 : decode cX7_init 4 = .ok (.aload_n 0, 1) := by decide +kernel
theorem dX7_init_5 : decode cX7_init 5 = .ok (.sipush 865, 3) := by decide +kernel
theorem dX7_init_8 : decode cX7_init 8 = .ok (.newarray .int, 2) := by decide +kernel
theorem dX7_init_10 : decode cX7_init 10 = .ok (.putfield 7, 3) := by decide +kernel
theorem dX7_init_13 : decode cX7_init 13 = .ok (.aload_n 0, 1) := by decide +kernel
theorem dX7_init_14 : decode cX7_init 14 = .ok (.sipush 5190, 3) := by decide +kernel
theorem dX7_init_17 : decode cX7_init 17 = .ok (.newarray .int, 2) := by decide +kernel
theorem dX7_init_19 : decode cX7_init 19 = .ok (.putfield 13, 3) := by decide +kernel
theorem dX7_init_22 : decode cX7_init 22 = .ok (.aload_n 0, 1) := by decide +kernel
theorem dX7_init_23 : decode cX7_init 23 = .ok (.sipush 1730, 3) := by decide +kernel
theorem dX7_init_26 : decode cX7_init 26 = .ok (.newarray .int, 2) := by decide +kernel
theorem dX7_init_28 : decode cX7_init 28 = .ok (.putfield 16, 3) := by decide +kernel
theorem dX7_init_31 : decode cX7_init 31 = .ok (.aload_n 0, 1) := by decide +kernel
theorem dX7_init_32 : decode cX7_init 32 = .ok (.iconst 2, 1) := by decide +kernel
theorem dX7_init_33 : decode cX7_init 33 = .ok (.newarray .boolean, 2) := by decide +kernel
theorem dX7_init_35 : decode cX7_init 35 = .ok (.putfield 19, 3) := by decide +kernel
theorem dX7_init_38 : decode cX7_init 38 = .ok (.aload_n 0, 1) := by decide +kernel
theorem dX7_init_39 : decode cX7_init 39 = .ok (.bipush 80, 2) := by decide +kernel
theorem dX7_init_41 : decode cX7_init 41 = .ok (.newarray .int, 2) := by decide +kernel
theorem dX7_init_43 : decode cX7_init 43 = .ok (.putfield 23, 3) := by decide +kernel
theorem dX7_init_46 : decode cX7_init 46 = .ok (.iconst 0, 1) := by decide +kernel
theorem dX7_init_47 : decode cX7_init 47 = .ok (.istore_n 1, 1) := by decide +kernel
theorem dX7_init_48 : decode cX7_init 48 = .ok (.iload_n 1, 1) := by decide +kernel
theorem dX7_init_49 : decode cX7_init 49 = .ok (.iconst 3, 1) := by decide +kernel
theorem dX7_init_50 : decode cX7_init 50 = .ok (.if_icmp .ge 39, 3) := by decide +kernel
theorem dX7_init_53 : decode cX7_init 53 = .ok (.aload_n 0, 1) := by decide +kernel
theorem dX7_init_54 : decode cX7_init 54 = .ok (.getfield 7, 3) := by decide +kernel
theorem dX7_init_57 : decode cX7_init 57 = .ok (.bipush 7, 2) := by decide +kernel
theorem dX7_init_59 : decode cX7_init 59 = .ok (.bipush 6, 2) := by decide +kernel
theorem dX7_init_61 : decode cX7_init 61 = .ok (.iload_n 1, 1) := by decide +kernel
theorem dX7_init_62 : decode cX7_init 62 = .ok (.imul, 1) := by decide +kernel
theorem dX7_init_63 : decode cX7_init 63 = .ok (.iadd, 1) := by decide +kernel
theorem dX7_init_64 : decode cX7_init 64 = .ok (.iconst 3, 1) := by decide +kernel
theorem dX7_init_65 : decode cX7_init 65 = .ok (.iadd, 1) := by decide +kernel
theorem dX7_init_66 : decode cX7_init 66 = .ok (.iconst 5, 1) := by decide +kernel
theorem dX7_init_67 : decode cX7_init 67 = .ok (.iastore, 1) := by decide +kernel
theorem dX7_init_68 : decode cX7_init 68 = .ok (.aload_n 0, 1) := by decide +kernel
theorem dX7_init_69 : decode cX7_init 69 = .ok (.getfield 7, 3) := by decide +kernel
theorem dX7_init_72 : decode cX7_init 72 = .ok (.bipush 7, 2) := by decide +kernel
theorem dX7_init_74 : decode cX7_init 74 = .ok (.bipush 6, 2) := by decide +kernel
theorem dX7_init_76 : decode cX7_init 76 = .ok (.iload_n 1, 1) := by decide +kernel
theorem dX7_init_77 : decode cX7_init 77 = .ok (.imul, 1) := by decide +kernel
theorem dX7_init_78 : decode cX7_init 78 = .ok (.iadd, 1) := by decide +kernel
theorem dX7_init_79 : decode cX7_init 79 = .ok (.iconst 4, 1) := by decide +kernel
theorem dX7_init_80 : decode cX7_init 80 = .ok (.iadd, 1) := by decide +kernel
theorem dX7_init_81 : decode cX7_init 81 = .ok (.iconst 2, 1) := by decide +kernel
theorem dX7_init_82 : decode cX7_init 82 = .ok (.iastore, 1) := by decide +kernel
theorem dX7_init_83 : decode cX7_init 83 = .ok (.iinc 1 1, 3) := by decide +kernel
theorem dX7_init_86 : decode cX7_init 86 = .ok (.goto (-38), 3) := by decide +kernel
theorem dX7_init_89 : decode cX7_init 89 = .ok (.return_, 1) := by decide +kernel
theorem dX7_thrown_0 : decode cX7_thrown 0 = .ok (.aload_n 0, 1) := by decide +kernel
theorem dX7_thrown_1 : decode cX7_thrown 1 = .ok (.getfield 26, 3) := by decide +kernel
theorem dX7_thrown_4 : decode cX7_thrown 4 = .ok (.ireturn, 1) := by decide +kernel
theorem dX7_throwsAt_0 : decode cX7_throwsAt 0 = .ok (.aload_n 0, 1) := by decide +kernel
theorem dX7_throwsAt_1 : decode cX7_throwsAt 1 = .ok (.iload_n 1, 1) := by decide +kernel
theorem dX7_throwsAt_2 : decode cX7_throwsAt 2 = .ok (.putfield 26, 3) := by decide +kernel
theorem dX7_throwsAt_5 : decode cX7_throwsAt 5 = .ok (.iload_n 1, 1) := by decide +kernel
theorem dX7_throwsAt_6 : decode cX7_throwsAt 6 = .ok (.ifCond .le 7, 3) := by decide +kernel
theorem dX7_throwsAt_9 : decode cX7_throwsAt 9 = .ok (.iconst 1, 1) := by decide +kernel
theorem dX7_throwsAt_10 : decode cX7_throwsAt 10 = .ok (.goto 4, 3) := by decide +kernel
theorem dX7_throwsAt_13 : decode cX7_throwsAt 13 = .ok (.iconst 0, 1) := by decide +kernel
theorem dX7_throwsAt_14 : decode cX7_throwsAt 14 = .ok (.ireturn, 1) := by decide +kernel
theorem dX7_in_0 : decode cX7_in 0 = .ok (.iload_n 0, 1) := by decide +kernel
theorem dX7_in_1 : decode cX7_in 1 = .ok (.iload_n 1, 1) := by decide +kernel
theorem dX7_in_2 : decode cX7_in 2 = .ok (.if_icmp .lt 12, 3) := by decide +kernel
theorem dX7_in_5 : decode cX7_in 5 = .ok (.iload_n 0, 1) := by decide +kernel
theorem dX7_in_6 : decode cX7_in 6 = .ok (.iload_n 2, 1) := by decide +kernel
theorem dX7_in_7 : decode cX7_in 7 = .ok (.if_icmp .gt 7, 3) := by decide +kernel
theorem dX7_in_10 : decode cX7_in 10 = .ok (.iconst 1, 1) := by decide +kernel
theorem dX7_in_11 : decode cX7_in 11 = .ok (.goto 4, 3) := by decide +kernel
theorem dX7_in_14 : decode cX7_in 14 = .ok (.iconst 0, 1) := by decide +kernel
theorem dX7_in_15 : decode cX7_in 15 = .ok (.ireturn, 1) := by decide +kernel
set_option maxRecDepth 20000 in
theorem ggX7_isServer_X7_in : GoodIn wsX7_isServer wsX7_in := goodIn_r _ [4] (by decide +kernel) (by decide +kernel)
set_option maxRecDepth 20000 in
theorem gX7_isServer_X7_in : GoodIn wsX7_isServer (va_wsS RX7 30 yX7_in wsX7_in) := goodIn_app (goodIn_of _ (by decide +kernel)) ggX7_isServer_X7_in
theorem dX7_isServer_0 : decode cX7_isServer 0 = .ok (.iload_n 0, 1) := by decide +kernel
theorem dX7_isServer_1 : decode cX7_isServer 1 = .ok (.iconst 0, 1) := by decide +kernel
theorem dX7_isServer_2 : decode cX7_isServer 2 = .ok (.iconst 2, 1) := by decide +kernel
theorem dX7_isServer_3 : decode cX7_isServer 3 = .ok (.invokestatic 30, 3) := by decide +kernel
theorem dX7_isServer_6 : decode cX7_isServer 6 = .ok (.ireturn, 1) := by decide +kernel
set_option maxRecDepth 20000 in
theorem ggX7_isKey_X7_in : GoodIn wsX7_isKey wsX7_in := goodIn_r _ [4] (by decide +kernel) (by decide +kernel)
set_option maxRecDepth 20000 in
theorem gX7_isKey_X7_in : GoodIn wsX7_isKey (va_wsS RX7 30 yX7_in wsX7_in) := goodIn_app (goodIn_of _ (by decide +kernel)) ggX7_isKey_X7_in
theorem dX7_isKey_0 : decode cX7_isKey 0 = .ok (.iload_n 0, 1) := by decide +kernel
theorem dX7_isKey_1 : decode cX7_isKey 1 = .ok (.iconst 0, 1) := by decide +kernel
theorem dX7_isKey_2 : decode cX7_isKey 2 = .ok (.bipush 7, 2) := by decide +kernel
theorem dX7_isKey_4 : decode cX7_isKey 4 = .ok (.invokestatic 30, 3) := by decide +kernel
theorem dX7_isKey_7 : decode cX7_isKey 7 = .ok (.ireturn, 1) := by decide +kernel
set_option maxRecDepth 20000 in
theorem ggX7_isTransaction_X7_in : GoodIn wsX7_isTransaction wsX7_in := goodIn_r _ [5] (by decide +kernel) (by decide +kernel)
set_option maxRecDepth 20000 in
theorem gX7_isTransaction_X7_in : GoodIn wsX7_isTransaction (va_wsS RX7 30 yX7_in wsX7_in) := goodIn_app (goodIn_of _ (by decide +kernel)) ggX7_isTransaction_X7_in
theorem dX7_isTransaction_0 : decode cX7_isTransaction 0 = .ok (.iload_n 1, 1) := by decide +kernel
theorem dX7_isTransaction_1 : decode cX7_isTransaction 1 = .ok (.iconst 0, 1) := by decide +kernel
theorem dX7_isTransaction_2 : decode cX7_isTransaction 2 = .ok (.aload_n 0, 1) := by decide +kernel
theorem dX7_isTransaction_3 : decode cX7_isTransaction 3 = .ok (.getfield 7, 3) := by decide +kernel
theorem dX7_isTransaction_6 : decode cX7_isTransaction 6 = .ok (.iconst 3, 1) := by decide +kernel
theorem dX7_isTransaction_7 : decode cX7_isTransaction 7 = .ok (.iaload, 1) := by decide +kernel
theorem dX7_isTransaction_8 : decode cX7_isTransaction 8 = .ok (.iconst 1, 1) := by decide +kernel
theorem dX7_isTransaction_9 : decode cX7_isTransaction 9 = .ok (.isub, 1) := by decide +kernel
theorem dX7_isTransaction_10 : decode cX7_isTransaction 10 = .ok (.invokestatic 30, 3) := by decide +kernel
theorem dX7_isTransaction_13 : decode cX7_isTransaction 13 = .ok (.ireturn, 1) := by decide +kernel
theorem dX7_greater_0 : decode cX7_greater 0 = .ok (.iload_n 0, 1) := by decide +kernel
theorem dX7_greater_1 : decode cX7_greater 1 = .ok (.iload_n 1, 1) := by decide +kernel
theorem dX7_greater_2 : decode cX7_greater 2 = .ok (.if_icmp .le 7, 3) := by decide +kernel
theorem dX7_greater_5 : decode cX7_greater 5 = .ok (.iload_n 0, 1) := by decide +kernel
theorem dX7_greater_6 : decode cX7_greater 6 = .ok (.goto 4, 3) := by decide +kernel
theorem dX7_greater_9 : decode cX7_greater 9 = .ok (.iload_n 1, 1) := by decide +kernel
theorem dX7_greater_10 : decode cX7_greater 10 = .ok (.ireturn, 1) := by decide +kernel
theorem dX7_saves_0 : decode cX7_saves 0 = .ok (.aload_n 0, 1) := by decide +kernel
theorem dX7_saves_1 : decode cX7_saves 1 = .ok (.getfield 34, 3) := by decide +kernel
theorem dX7_saves_4 : decode cX7_saves 4 = .ok (.bipush 6, 2) := by decide +kernel
theorem dX7_saves_6 : decode cX7_saves 6 = .ok (.if_icmp .ne 44, 3) := by decide +kernel
theorem dX7_saves_9 : decode cX7_saves 9 = .ok (.iconst 0, 1) := by decide +kernel
theorem dX7_saves_10 : decode cX7_saves 10 = .ok (.istore_n 1, 1) := by decide +kernel
theorem dX7_saves_11 : decode cX7_saves 11 = .ok (.iload_n 1, 1) := by decide +kernel
theorem dX7_saves_12 : decode cX7_saves 12 = .ok (.sipush 4325, 3) := by decide +kernel
theorem dX7_saves_15 : decode cX7_saves 15 = .ok (.if_icmp .ge 25, 3) := by decide +kernel
theorem dX7_saves_18 : decode cX7_saves 18 = .ok (.aload_n 0, 1) := by decide +kernel
theorem dX7_saves_19 : decode cX7_saves 19 = .ok (.getfield 13, 3) := by decide +kernel
theorem dX7_saves_22 : decode cX7_saves 22 = .ok (.iload_n 1, 1) := by decide +kernel
theorem dX7_saves_23 : decode cX7_saves 23 = .ok (.aload_n 0, 1) := by decide +kernel
theorem dX7_saves_24 : decode cX7_saves 24 = .ok (.getfield 13, 3) := by decide +kernel
theorem dX7_saves_27 : decode cX7_saves 27 = .ok (.sipush 865, 3) := by decide +kernel
theorem dX7_saves_30 : decode cX7_saves 30 = .ok (.iload_n 1, 1) := by decide +kernel
theorem dX7_saves_31 : decode cX7_saves 31 = .ok (.iadd, 1) := by decide +kernel
theorem dX7_saves_32 : decode cX7_saves 32 = .ok (.iaload, 1) := by decide +kernel
theorem dX7_saves_33 : decode cX7_saves 33 = .ok (.iastore, 1) := by decide +kernel
theorem dX7_saves_34 : decode cX7_saves 34 = .ok (.iinc 1 1, 3) := by decide +kernel
theorem dX7_saves_37 : decode cX7_saves 37 = .ok (.goto (-26), 3) := by decide +kernel
theorem dX7_saves_40 : decode cX7_saves 40 = .ok (.aload_n 0, 1) := by decide +kernel
theorem dX7_saves_41 : decode cX7_saves 41 = .ok (.dup, 1) := by decide +kernel
theorem dX7_saves_42 : decode cX7_saves 42 = .ok (.getfield 34, 3) := by decide +kernel
theorem dX7_saves_45 : decode cX7_saves 45 = .ok (.iconst 1, 1) := by decide +kernel
theorem dX7_saves_46 : decode cX7_saves 46 = .ok (.isub, 1) := by decide +kernel
theorem dX7_saves_47 : decode cX7_saves 47 = .ok (.putfield 34, 3) := by decide +kernel
theorem dX7_saves_50 : decode cX7_saves 50 = .ok (.iconst 0, 1) := by decide +kernel
theorem dX7_saves_51 : decode cX7_saves 51 = .ok (.istore_n 1, 1) := by decide +kernel
theorem dX7_saves_52 : decode cX7_saves 52 = .ok (.iload_n 1, 1) := by decide +kernel
theorem dX7_saves_53 : decode cX7_saves 53 = .ok (.sipush 865, 3) := by decide +kernel
theorem dX7_saves_56 : decode cX7_saves 56 = .ok (.if_icmp .ge 30, 3) := by decide +kernel
theorem dX7_saves_59 : decode cX7_saves 59 = .ok (.aload_n 0, 1) := by decide +kernel
theorem dX7_saves_60 : decode cX7_saves 60 = .ok (.getfield 13, 3) := by decide +kernel
theorem dX7_saves_63 : decode cX7_saves 63 = .ok (.sipush 865, 3) := by decide +kernel
theorem dX7_saves_66 : decode cX7_saves 66 = .ok (.aload_n 0, 1) := by decide +kernel
theorem dX7_saves_67 : decode cX7_saves 67 = .ok (.getfield 34, 3) := by decide +kernel
theorem dX7_saves_70 : decode cX7_saves 70 = .ok (.imul, 1) := by decide +kernel
theorem dX7_saves_71 : decode cX7_saves 71 = .ok (.iload_n 1, 1) := by decide +kernel
theorem dX7_saves_72 : decode cX7_saves 72 = .ok (.iadd, 1) := by decide +kernel
theorem dX7_saves_73 : decode cX7_saves 73 = .ok (.aload_n 0, 1) := by decide +kernel
theorem dX7_saves_74 : decode cX7_saves 74 = .ok (.getfield 7, 3) := by decide +kernel
theorem dX7_saves_77 : decode cX7_saves 77 = .ok (.iload_n 1, 1) := by decide +kernel
theorem dX7_saves_78 : decode cX7_saves 78 = .ok (.iaload, 1) := by decide +kernel
theorem dX7_saves_79 : decode cX7_saves 79 = .ok (.iastore, 1) := by decide +kernel
theorem dX7_saves_80 : decode cX7_saves 80 = .ok (.iinc 1 1, 3) := by decide +kernel
theorem dX7_saves_83 : decode cX7_saves 83 = .ok (.goto (-31), 3) := by decide +kernel
theorem dX7_saves_86 : decode cX7_saves 86 = .ok (.aload_n 0, 1) := by decide +kernel
theorem dX7_saves_87 : decode cX7_saves 87 = .ok (.dup, 1) := by decide +kernel
theorem dX7_saves_88 : decode cX7_saves 88 = .ok (.getfield 34, 3) := by decide +kernel
theorem dX7_saves_91 : decode cX7_saves 91 = .ok (.iconst 1, 1) := by decide +kernel
theorem dX7_saves_92 : decode cX7_saves 92 = .ok (.iadd, 1) := by decide +kernel
theorem dX7_saves_93 : decode cX7_saves 93 = .ok (.putfield 34, 3) := by decide +kernel
theorem dX7_saves_96 : decode cX7_saves 96 = .ok (.return_, 1) := by decide +kernel
theorem dX7_down_0 : decode cX7_down 0 = .ok (.iload_n 0, 1) := by decide +kernel
theorem dX7_down_1 : decode cX7_down 1 = .ok (.ifCond .lt 11, 3) := by decide +kernel
theorem dX7_down_4 : decode cX7_down 4 = .ok (.iload_n 0, 1) := by decide +kernel
theorem dX7_down_5 : decode cX7_down 5 = .ok (.sipush 1000, 3) := by decide +kernel
theorem dX7_down_8 : decode cX7_down 8 = .ok (.idiv, 1) := by decide +kernel
theorem dX7_down_9 : decode cX7_down 9 = .ok (.goto 13, 3) := by decide +kernel
theorem dX7_down_12 : decode cX7_down 12 = .ok (.sipush 999, 3) := by decide +kernel
theorem dX7_down_15 : decode cX7_down 15 = .ok (.iload_n 0, 1) := by decide +kernel
theorem dX7_down_16 : decode cX7_down 16 = .ok (.isub, 1) := by decide +kernel
theorem dX7_down_17 : decode cX7_down 17 = .ok (.sipush 1000, 3) := by decide +kernel
theorem dX7_down_20 : decode cX7_down 20 = .ok (.idiv, 1) := by decide +kernel
theorem dX7_down_21 : decode cX7_down 21 = .ok (.ineg, 1) := by decide +kernel
theorem dX7_down_22 : decode cX7_down 22 = .ok (.ireturn, 1) := by decide +kernel
theorem dX7_clock_0 : decode cX7_clock 0 = .ok (.aload_n 0, 1) := by decide +kernel
theorem dX7_clock_1 : decode cX7_clock 1 = .ok (.getfield 7, 3) := by decide +kernel
theorem dX7_clock_4 : decode cX7_clock 4 = .ok (.bipush 7, 2) := by decide +kernel
theorem dX7_clock_6 : decode cX7_clock 6 = .ok (.bipush 6, 2) := by decide +kernel
theorem dX7_clock_8 : decode cX7_clock 8 = .ok (.iload_n 1, 1) := by decide +kernel
theorem dX7_clock_9 : decode cX7_clock 9 = .ok (.imul, 1) := by decide +kernel
theorem dX7_clock_10 : decode cX7_clock 10 = .ok (.iadd, 1) := by decide +kernel
theorem dX7_clock_11 : decode cX7_clock 11 = .ok (.iload_n 2, 1) := by decide +kernel
theorem dX7_clock_12 : decode cX7_clock 12 = .ok (.iadd, 1) := by decide +kernel
theorem dX7_clock_13 : decode cX7_clock 13 = .ok (.iaload, 1) := by decide +kernel
theorem dX7_clock_14 : decode cX7_clock 14 = .ok (.ireturn, 1) := by decide +kernel
theorem dX7_sets_0 : decode cX7_sets 0 = .ok (.aload_n 0, 1) := by decide +kernel
theorem dX7_sets_1 : decode cX7_sets 1 = .ok (.getfield 7, 3) := by decide +kernel
theorem dX7_sets_4 : decode cX7_sets 4 = .ok (.bipush 7, 2) := by decide +kernel
theorem dX7_sets_6 : decode cX7_sets 6 = .ok (.bipush 6, 2) := by decide +kernel
theorem dX7_sets_8 : decode cX7_sets 8 = .ok (.iload_n 1, 1) := by decide +kernel
theorem dX7_sets_9 : decode cX7_sets 9 = .ok (.imul, 1) := by decide +kernel
theorem dX7_sets_10 : decode cX7_sets 10 = .ok (.iadd, 1) := by decide +kernel
theorem dX7_sets_11 : decode cX7_sets 11 = .ok (.iload_n 2, 1) := by decide +kernel
theorem dX7_sets_12 : decode cX7_sets 12 = .ok (.iadd, 1) := by decide +kernel
theorem dX7_sets_13 : decode cX7_sets 13 = .ok (.iload_n 3, 1) := by decide +kernel
theorem dX7_sets_14 : decode cX7_sets 14 = .ok (.iastore, 1) := by decide +kernel
theorem dX7_sets_15 : decode cX7_sets 15 = .ok (.return_, 1) := by decide +kernel
set_option maxRecDepth 20000 in
theorem ggX7_offset_X7_clock : GoodIn wsX7_offset wsX7_clock := goodIn_r _ [5, 6, 10, 11, 12, 13, 14, 15, 16, 17] (by decide +kernel) (by decide +kernel)
set_option maxRecDepth 20000 in
theorem gX7_offset_X7_clock : GoodIn wsX7_offset (wsV RX7 37 RX7 yX7_clock wsX7_clock) := goodIn_app (goodIn_of _ (by decide +kernel)) ggX7_offset_X7_clock
set_option maxRecDepth 20000 in
theorem ggX7_offset_X7_down : GoodIn wsX7_offset wsX7_down := goodIn_r _ [9] (by decide +kernel) (by decide +kernel)
set_option maxRecDepth 20000 in
theorem gX7_offset_X7_down : GoodIn wsX7_offset (va_wsS RX7 41 yX7_down wsX7_down) := goodIn_app (goodIn_of _ (by decide +kernel)) ggX7_offset_X7_down
theorem dX7_offset_0 : decode cX7_offset 0 = .ok (.aload_n 0, 1) := by decide +kernel
theorem dX7_offset_1 : decode cX7_offset 1 = .ok (.iload_n 1, 1) := by decide +kernel
theorem dX7_offset_2 : decode cX7_offset 2 = .ok (.iconst 0, 1) := by decide +kernel
theorem dX7_offset_3 : decode cX7_offset 3 = .ok (.invokevirtual 37, 3) := by decide +kernel
theorem dX7_offset_6 : decode cX7_offset 6 = .ok (.aload_n 0, 1) := by decide +kernel
theorem dX7_offset_7 : decode cX7_offset 7 = .ok (.iload_n 1, 1) := by decide +kernel
theorem dX7_offset_8 : decode cX7_offset 8 = .ok (.iconst 2, 1) := by decide +kernel
theorem dX7_offset_9 : decode cX7_offset 9 = .ok (.invokevirtual 37, 3) := by decide +kernel
theorem dX7_offset_12 : decode cX7_offset 12 = .ok (.iload_n 2, 1) := by decide +kernel
theorem dX7_offset_13 : decode cX7_offset 13 = .ok (.aload_n 0, 1) := by decide +kernel
theorem dX7_offset_14 : decode cX7_offset 14 = .ok (.iload_n 1, 1) := by decide +kernel
theorem dX7_offset_15 : decode cX7_offset 15 = .ok (.iconst 1, 1) := by decide +kernel
theorem dX7_offset_16 : decode cX7_offset 16 = .ok (.invokevirtual 37, 3) := by decide +kernel
theorem dX7_offset_19 : decode cX7_offset 19 = .ok (.isub, 1) := by decide +kernel
theorem dX7_offset_20 : decode cX7_offset 20 = .ok (.imul, 1) := by decide +kernel
theorem dX7_offset_21 : decode cX7_offset 21 = .ok (.invokestatic 41, 3) := by decide +kernel
theorem dX7_offset_24 : decode cX7_offset 24 = .ok (.iadd, 1) := by decide +kernel
theorem dX7_offset_25 : decode cX7_offset 25 = .ok (.ireturn, 1) := by decide +kernel
set_option maxRecDepth 20000 in
theorem ggX7_uncertainty_X7_clock : GoodIn wsX7_uncertainty wsX7_clock := goodIn_r _ [5, 6, 7, 8, 9, 10, 11, 12, 13, 14] (by decide +kernel) (by decide +kernel)
set_option maxRecDepth 20000 in
theorem gX7_uncertainty_X7_clock : GoodIn wsX7_uncertainty (wsV RX7 37 RX7 yX7_clock wsX7_clock) := goodIn_app (goodIn_of _ (by decide +kernel)) ggX7_uncertainty_X7_clock
theorem dX7_uncertainty_0 : decode cX7_uncertainty 0 = .ok (.aload_n 0, 1) := by decide +kernel
theorem dX7_uncertainty_1 : decode cX7_uncertainty 1 = .ok (.iload_n 1, 1) := by decide +kernel
theorem dX7_uncertainty_2 : decode cX7_uncertainty 2 = .ok (.iconst 3, 1) := by decide +kernel
theorem dX7_uncertainty_3 : decode cX7_uncertainty 3 = .ok (.invokevirtual 37, 3) := by decide +kernel
theorem dX7_uncertainty_6 : decode cX7_uncertainty 6 = .ok (.aload_n 0, 1) := by decide +kernel
theorem dX7_uncertainty_7 : decode cX7_uncertainty 7 = .ok (.iload_n 1, 1) := by decide +kernel
theorem dX7_uncertainty_8 : decode cX7_uncertainty 8 = .ok (.iconst 4, 1) := by decide +kernel
theorem dX7_uncertainty_9 : decode cX7_uncertainty 9 = .ok (.invokevirtual 37, 3) := by decide +kernel
theorem dX7_uncertainty_12 : decode cX7_uncertainty 12 = .ok (.iload_n 2, 1) := by decide +kernel
theorem dX7_uncertainty_13 : decode cX7_uncertainty 13 = .ok (.aload_n 0, 1) := by decide +kernel
theorem dX7_uncertainty_14 : decode cX7_uncertainty 14 = .ok (.iload_n 1, 1) := by decide +kernel
theorem dX7_uncertainty_15 : decode cX7_uncertainty 15 = .ok (.iconst 5, 1) := by decide +kernel
theorem dX7_uncertainty_16 : decode cX7_uncertainty 16 = .ok (.invokevirtual 37, 3) := by decide +kernel
theorem dX7_uncertainty_19 : decode cX7_uncertainty 19 = .ok (.isub, 1) := by decide +kernel
theorem dX7_uncertainty_20 : decode cX7_uncertainty 20 = .ok (.imul, 1) := by decide +kernel
theorem dX7_uncertainty_21 : decode cX7_uncertainty 21 = .ok (.sipush 999, 3) := by decide +kernel
theorem dX7_uncertainty_24 : decode cX7_uncertainty 24 = .ok (.iadd, 1) := by decide +kernel
theorem dX7_uncertainty_25 : decode cX7_uncertainty 25 = .ok (.sipush 1000, 3) := by decide +kernel
theorem dX7_uncertainty_28 : decode cX7_uncertainty 28 = .ok (.idiv, 1) := by decide +kernel
theorem dX7_uncertainty_29 : decode cX7_uncertainty 29 = .ok (.iadd, 1) := by decide +kernel
theorem dX7_uncertainty_30 : decode cX7_uncertainty 30 = .ok (.ireturn, 1) := by decide +kernel
set_option maxRecDepth 20000 in
theorem ggX7_earliestAt_X7_offset : GoodIn wsX7_earliestAt wsX7_offset := goodIn_r _ [5, 6, 7, 8, 4, 9, 10, 11, 12, 13, 18, 19, 20, 21, 22, 23, 24, 25] (by decide +kernel) (by decide +kernel)
set_option maxRecDepth 20000 in
theorem gX7_earliestAt_X7_offset : GoodIn wsX7_earliestAt (wsV RX7 45 RX7 yX7_offset wsX7_offset) := goodIn_app (goodIn_of _ (by decide +kernel)) ggX7_earliestAt_X7_offset
set_option maxRecDepth 20000 in
theorem ggX7_earliestAt_X7_uncertainty : GoodIn wsX7_earliestAt wsX7_uncertainty := goodIn_r _ [17, 6, 7, 8, 4, 9, 10, 18, 19, 20, 21, 22, 23, 24, 25] (by decide +kernel) (by decide +kernel)
set_option maxRecDepth 20000 in
theorem gX7_earliestAt_X7_uncertainty : GoodIn wsX7_earliestAt (wsV RX7 48 RX7 yX7_uncertainty wsX7_uncertainty) := goodIn_app (goodIn_of _ (by decide +kernel)) ggX7_earliestAt_X7_uncertainty
theorem dX7_earliestAt_0 : decode cX7_earliestAt 0 = .ok (.iload_n 2, 1) := by decide +kernel
theorem dX7_earliestAt_1 : decode cX7_earliestAt 1 = .ok (.aload_n 0, 1) := by decide +kernel
theorem dX7_earliestAt_2 : decode cX7_earliestAt 2 = .ok (.iload_n 1, 1) := by decide +kernel
theorem dX7_earliestAt_3 : decode cX7_earliestAt 3 = .ok (.iload_n 2, 1) := by decide +kernel
theorem dX7_earliestAt_4 : decode cX7_earliestAt 4 = .ok (.invokevirtual 45, 3) := by decide +kernel
theorem dX7_earliestAt_7 : decode cX7_earliestAt 7 = .ok (.iadd, 1) := by decide +kernel
theorem dX7_earliestAt_8 : decode cX7_earliestAt 8 = .ok (.aload_n 0, 1) := by decide +kernel
theorem dX7_earliestAt_9 : decode cX7_earliestAt 9 = .ok (.iload_n 1, 1) := by decide +kernel
theorem dX7_earliestAt_10 : decode cX7_earliestAt 10 = .ok (.iload_n 2, 1) := by decide +kernel
theorem dX7_earliestAt_11 : decode cX7_earliestAt 11 = .ok (.invokevirtual 48, 3) := by decide +kernel
theorem dX7_earliestAt_14 : decode cX7_earliestAt 14 = .ok (.isub, 1) := by decide +kernel
theorem dX7_earliestAt_15 : decode cX7_earliestAt 15 = .ok (.ireturn, 1) := by decide +kernel
set_option maxRecDepth 20000 in
theorem ggX7_latestAt_X7_offset : GoodIn wsX7_latestAt wsX7_offset := goodIn_r _ [5, 6, 7, 8, 4, 9, 10, 11, 12, 13, 18, 19, 20, 21, 22, 23, 24, 25] (by decide +kernel) (by decide +kernel)
set_option maxRecDepth 20000 in
theorem gX7_latestAt_X7_offset : GoodIn wsX7_latestAt (wsV RX7 45 RX7 yX7_offset wsX7_offset) := goodIn_app (goodIn_of _ (by decide +kernel)) ggX7_latestAt_X7_offset
set_option maxRecDepth 20000 in
theorem ggX7_latestAt_X7_uncertainty : GoodIn wsX7_latestAt wsX7_uncertainty := goodIn_r _ [17, 6, 7, 8, 4, 9, 10, 18, 19, 20, 21, 22, 23, 24, 25] (by decide +kernel) (by decide +kernel)
set_option maxRecDepth 20000 in
theorem gX7_latestAt_X7_uncertainty : GoodIn wsX7_latestAt (wsV RX7 48 RX7 yX7_uncertainty wsX7_uncertainty) := goodIn_app (goodIn_of _ (by decide +kernel)) ggX7_latestAt_X7_uncertainty
theorem dX7_latestAt_0 : decode cX7_latestAt 0 = .ok (.iload_n 2, 1) := by decide +kernel
theorem dX7_latestAt_1 : decode cX7_latestAt 1 = .ok (.aload_n 0, 1) := by decide +kernel
theorem dX7_latestAt_2 : decode cX7_latestAt 2 = .ok (.iload_n 1, 1) := by decide +kernel
theorem dX7_latestAt_3 : decode cX7_latestAt 3 = .ok (.iload_n 2, 1) := by decide +kernel
theorem dX7_latestAt_4 : decode cX7_latestAt 4 = .ok (.invokevirtual 45, 3) := by decide +kernel
theorem dX7_latestAt_7 : decode cX7_latestAt 7 = .ok (.iadd, 1) := by decide +kernel
theorem dX7_latestAt_8 : decode cX7_latestAt 8 = .ok (.aload_n 0, 1) := by decide +kernel
theorem dX7_latestAt_9 : decode cX7_latestAt 9 = .ok (.iload_n 1, 1) := by decide +kernel
theorem dX7_latestAt_10 : decode cX7_latestAt 10 = .ok (.iload_n 2, 1) := by decide +kernel
theorem dX7_latestAt_11 : decode cX7_latestAt 11 = .ok (.invokevirtual 48, 3) := by decide +kernel
theorem dX7_latestAt_14 : decode cX7_latestAt 14 = .ok (.iadd, 1) := by decide +kernel
theorem dX7_latestAt_15 : decode cX7_latestAt 15 = .ok (.ireturn, 1) := by decide +kernel
set_option maxRecDepth 20000 in
theorem ggX7_isSoundAt_X7_earliestAt : GoodIn wsX7_isSoundAt wsX7_earliestAt := goodIn_r _ [5, 6, 7, 8, 4, 9, 10, 11, 12, 13, 14, 15, 16, 17, 18, 19, 20, 21, 26, 27, 28, 29, 30, 31, 32, 33] (by decide +kernel) (by decide +kernel)
set_option maxRecDepth 20000 in
theorem gX7_isSoundAt_X7_earliestAt : GoodIn wsX7_isSoundAt (wsV RX7 51 RX7 yX7_earliestAt wsX7_earliestAt) := goodIn_app (goodIn_of _ (by decide +kernel)) ggX7_isSoundAt_X7_earliestAt
set_option maxRecDepth 20000 in
theorem ggX7_isSoundAt_X7_latestAt : GoodIn wsX7_isSoundAt wsX7_latestAt := goodIn_r _ [25, 6, 7, 8, 4, 9, 10, 11, 12, 13, 14, 15, 16, 17, 18, 19, 20, 21, 26, 27, 28, 29, 30, 31, 32, 33] (by decide +kernel) (by decide +kernel)
set_option maxRecDepth 20000 in
theorem gX7_isSoundAt_X7_latestAt : GoodIn wsX7_isSoundAt (wsV RX7 54 RX7 yX7_latestAt wsX7_latestAt) := goodIn_app (goodIn_of _ (by decide +kernel)) ggX7_isSoundAt_X7_latestAt
theorem dX7_isSoundAt_0 : decode cX7_isSoundAt 0 = .ok (.aload_n 0, 1) := by decide +kernel
theorem dX7_isSoundAt_1 : decode cX7_isSoundAt 1 = .ok (.iload_n 1, 1) := by decide +kernel
theorem dX7_isSoundAt_2 : decode cX7_isSoundAt 2 = .ok (.iload_n 2, 1) := by decide +kernel
theorem dX7_isSoundAt_3 : decode cX7_isSoundAt 3 = .ok (.invokevirtual 51, 3) := by decide +kernel
theorem dX7_isSoundAt_6 : decode cX7_isSoundAt 6 = .ok (.iload_n 2, 1) := by decide +kernel
theorem dX7_isSoundAt_7 : decode cX7_isSoundAt 7 = .ok (.if_icmp .gt 17, 3) := by decide +kernel
theorem dX7_isSoundAt_10 : decode cX7_isSoundAt 10 = .ok (.aload_n 0, 1) := by decide +kernel
theorem dX7_isSoundAt_11 : decode cX7_isSoundAt 11 = .ok (.iload_n 1, 1) := by decide +kernel
theorem dX7_isSoundAt_12 : decode cX7_isSoundAt 12 = .ok (.iload_n 2, 1) := by decide +kernel
theorem dX7_isSoundAt_13 : decode cX7_isSoundAt 13 = .ok (.invokevirtual 54, 3) := by decide +kernel
theorem dX7_isSoundAt_16 : decode cX7_isSoundAt 16 = .ok (.iload_n 2, 1) := by decide +kernel
theorem dX7_isSoundAt_17 : decode cX7_isSoundAt 17 = .ok (.if_icmp .lt 7, 3) := by decide +kernel
theorem dX7_isSoundAt_20 : decode cX7_isSoundAt 20 = .ok (.iconst 1, 1) := by decide +kernel
theorem dX7_isSoundAt_21 : decode cX7_isSoundAt 21 = .ok (.goto 4, 3) := by decide +kernel
theorem dX7_isSoundAt_24 : decode cX7_isSoundAt 24 = .ok (.iconst 0, 1) := by decide +kernel
theorem dX7_isSoundAt_25 : decode cX7_isSoundAt 25 = .ok (.ireturn, 1) := by decide +kernel
set_option maxRecDepth 20000 in
theorem ggX7_uses_X7_isSoundAt : GoodIn wsX7_uses wsX7_isSoundAt := goodIn_r _ [6, 7, 8, 9, 5, 10, 11, 12, 13, 14, 15, 16, 17, 18, 1, 19, 20, 21, 22, 23, 24, 25, 26, 27, 28, 29, 30, 31, 32, 33, 34, 35, 36, 37] (by decide +kernel) (by decide +kernel)
set_option maxRecDepth 20000 in
theorem gX7_uses_X7_isSoundAt : GoodIn wsX7_uses (wsV RX7 57 RX7 yX7_isSoundAt wsX7_isSoundAt) := goodIn_app (goodIn_of _ (by decide +kernel)) ggX7_uses_X7_isSoundAt
theorem dX7_uses_0 : decode cX7_uses 0 = .ok (.aload_n 0, 1) := by decide +kernel
theorem dX7_uses_1 : decode cX7_uses 1 = .ok (.getfield 7, 3) := by decide +kernel
theorem dX7_uses_4 : decode cX7_uses 4 = .ok (.iconst 2, 1) := by decide +kernel
theorem dX7_uses_5 : decode cX7_uses 5 = .ok (.dup2, 1) := by decide +kernel
theorem dX7_uses_6 : decode cX7_uses 6 = .ok (.iaload, 1) := by decide +kernel
theorem dX7_uses_7 : decode cX7_uses 7 = .ok (.aload_n 0, 1) := by decide +kernel
theorem dX7_uses_8 : decode cX7_uses 8 = .ok (.iload_n 1, 1) := by decide +kernel
theorem dX7_uses_9 : decode cX7_uses 9 = .ok (.aload_n 0, 1) := by decide +kernel
theorem dX7_uses_10 : decode cX7_uses 10 = .ok (.getfield 7, 3) := by decide +kernel
theorem dX7_uses_13 : decode cX7_uses 13 = .ok (.iconst 0, 1) := by decide +kernel
theorem dX7_uses_14 : decode cX7_uses 14 = .ok (.iaload, 1) := by decide +kernel
theorem dX7_uses_15 : decode cX7_uses 15 = .ok (.invokevirtual 57, 3) := by decide +kernel
theorem dX7_uses_18 : decode cX7_uses 18 = .ok (.ifCond .eq 7, 3) := by decide +kernel
theorem dX7_uses_21 : decode cX7_uses 21 = .ok (.iconst 0, 1) := by decide +kernel
theorem dX7_uses_22 : decode cX7_uses 22 = .ok (.goto 4, 3) := by decide +kernel
theorem dX7_uses_25 : decode cX7_uses 25 = .ok (.iconst 1, 1) := by decide +kernel
theorem dX7_uses_26 : decode cX7_uses 26 = .ok (.iadd, 1) := by decide +kernel
theorem dX7_uses_27 : decode cX7_uses 27 = .ok (.iastore, 1) := by decide +kernel
theorem dX7_uses_28 : decode cX7_uses 28 = .ok (.return_, 1) := by decide +kernel
theorem dX7_of_0 : decode cX7_of 0 = .ok (.aload_n 0, 1) := by decide +kernel
theorem dX7_of_1 : decode cX7_of 1 = .ok (.getfield 7, 3) := by decide +kernel
theorem dX7_of_4 : decode cX7_of 4 = .ok (.bipush 25, 2) := by decide +kernel
theorem dX7_of_6 : decode cX7_of 6 = .ok (.bipush 21, 2) := by decide +kernel
theorem dX7_of_8 : decode cX7_of 8 = .ok (.iload_n 1, 1) := by decide +kernel
theorem dX7_of_9 : decode cX7_of 9 = .ok (.imul, 1) := by decide +kernel
theorem dX7_of_10 : decode cX7_of 10 = .ok (.iadd, 1) := by decide +kernel
theorem dX7_of_11 : decode cX7_of 11 = .ok (.iload_n 2, 1) := by decide +kernel
theorem dX7_of_12 : decode cX7_of 12 = .ok (.iadd, 1) := by decide +kernel
theorem dX7_of_13 : decode cX7_of 13 = .ok (.iaload, 1) := by decide +kernel
theorem dX7_of_14 : decode cX7_of 14 = .ok (.ireturn, 1) := by decide +kernel
theorem dX7_lays_0 : decode cX7_lays 0 = .ok (.aload_n 0, 1) := by decide +kernel
theorem dX7_lays_1 : decode cX7_lays 1 = .ok (.getfield 7, 3) := by decide +kernel
theorem dX7_lays_4 : decode cX7_lays 4 = .ok (.bipush 25, 2) := by decide +kernel
theorem dX7_lays_6 : decode cX7_lays 6 = .ok (.iload_n 1, 1) := by decide +kernel
theorem dX7_lays_7 : decode cX7_lays 7 = .ok (.iadd, 1) := by decide +kernel
theorem dX7_lays_8 : decode cX7_lays 8 = .ok (.iload_n 2, 1) := by decide +kernel
theorem dX7_lays_9 : decode cX7_lays 9 = .ok (.iastore, 1) := by decide +kernel
theorem dX7_lays_10 : decode cX7_lays 10 = .ok (.return_, 1) := by decide +kernel
set_option maxRecDepth 20000 in
theorem ggX7_hasWritten_X7_of : GoodIn wsX7_hasWritten wsX7_of := goodIn_r _ [5, 6, 7, 8, 9, 10, 11, 12, 13, 14] (by decide +kernel) (by decide +kernel)
set_option maxRecDepth 20000 in
theorem gX7_hasWritten_X7_of : GoodIn wsX7_hasWritten (wsV RX7 61 RX7 yX7_of wsX7_of) := goodIn_app (goodIn_of _ (by decide +kernel)) ggX7_hasWritten_X7_of
theorem dX7_hasWritten_0 : decode cX7_hasWritten 0 = .ok (.aload_n 0, 1) := by decide +kernel
theorem dX7_hasWritten_1 : decode cX7_hasWritten 1 = .ok (.iload_n 1, 1) := by decide +kernel
theorem dX7_hasWritten_2 : decode cX7_hasWritten 2 = .ok (.iconst 5, 1) := by decide +kernel
theorem dX7_hasWritten_3 : decode cX7_hasWritten 3 = .ok (.iload_n 2, 1) := by decide +kernel
theorem dX7_hasWritten_4 : decode cX7_hasWritten 4 = .ok (.iadd, 1) := by decide +kernel
theorem dX7_hasWritten_5 : decode cX7_hasWritten 5 = .ok (.invokevirtual 61, 3) := by decide +kernel
theorem dX7_hasWritten_8 : decode cX7_hasWritten 8 = .ok (.ifCond .lt 7, 3) := by decide +kernel
theorem dX7_hasWritten_11 : decode cX7_hasWritten 11 = .ok (.iconst 1, 1) := by decide +kernel
theorem dX7_hasWritten_12 : decode cX7_hasWritten 12 = .ok (.goto 4, 3) := by decide +kernel
theorem dX7_hasWritten_15 : decode cX7_hasWritten 15 = .ok (.iconst 0, 1) := by decide +kernel
theorem dX7_hasWritten_16 : decode cX7_hasWritten 16 = .ok (.ireturn, 1) := by decide +kernel
set_option maxRecDepth 20000 in
theorem ggX7_hasRead_X7_of : GoodIn wsX7_hasRead wsX7_of := goodIn_r _ [5, 6, 7, 8, 9, 10, 11, 12, 13, 14] (by decide +kernel) (by decide +kernel)
set_option maxRecDepth 20000 in
theorem gX7_hasRead_X7_of : GoodIn wsX7_hasRead (wsV RX7 61 RX7 yX7_of wsX7_of) := goodIn_app (goodIn_of _ (by decide +kernel)) ggX7_hasRead_X7_of
theorem dX7_hasRead_0 : decode cX7_hasRead 0 = .ok (.aload_n 0, 1) := by decide +kernel
theorem dX7_hasRead_1 : decode cX7_hasRead 1 = .ok (.iload_n 1, 1) := by decide +kernel
theorem dX7_hasRead_2 : decode cX7_hasRead 2 = .ok (.bipush 13, 2) := by decide +kernel
theorem dX7_hasRead_4 : decode cX7_hasRead 4 = .ok (.iload_n 2, 1) := by decide +kernel
theorem dX7_hasRead_5 : decode cX7_hasRead 5 = .ok (.iadd, 1) := by decide +kernel
theorem dX7_hasRead_6 : decode cX7_hasRead 6 = .ok (.invokevirtual 61, 3) := by decide +kernel
theorem dX7_hasRead_9 : decode cX7_hasRead 9 = .ok (.ifCond .lt 7, 3) := by decide +kernel
theorem dX7_hasRead_12 : decode cX7_hasRead 12 = .ok (.iconst 1, 1) := by decide +kernel
theorem dX7_hasRead_13 : decode cX7_hasRead 13 = .ok (.goto 4, 3) := by decide +kernel
theorem dX7_hasRead_16 : decode cX7_hasRead 16 = .ok (.iconst 0, 1) := by decide +kernel
theorem dX7_hasRead_17 : decode cX7_hasRead 17 = .ok (.ireturn, 1) := by decide +kernel
set_option maxRecDepth 20000 in
theorem ggX7_written_X7_hasWritten : GoodIn wsX7_written wsX7_hasWritten := goodIn_r _ [5, 6, 7, 8, 4, 9, 10, 11, 12, 13, 14, 15, 16, 17, 18] (by decide +kernel) (by decide +kernel)
set_option maxRecDepth 20000 in
theorem gX7_written_X7_hasWritten : GoodIn wsX7_written (wsV RX7 64 RX7 yX7_hasWritten wsX7_hasWritten) := goodIn_app (goodIn_of _ (by decide +kernel)) ggX7_written_X7_hasWritten
theorem dX7_written_0 : decode cX7_written 0 = .ok (.iconst 0, 1) := by decide +kernel
theorem dX7_written_1 : decode cX7_written 1 = .ok (.istore_n 2, 1) := by decide +kernel
theorem dX7_written_2 : decode cX7_written 2 = .ok (.iconst 0, 1) := by decide +kernel
theorem dX7_written_3 : decode cX7_written 3 = .ok (.istore_n 3, 1) := by decide +kernel
theorem dX7_written_4 : decode cX7_written 4 = .ok (.iload_n 3, 1) := by decide +kernel
theorem dX7_written_5 : decode cX7_written 5 = .ok (.bipush 8, 2) := by decide +kernel
theorem dX7_written_7 : decode cX7_written 7 = .ok (.if_icmp .ge 26, 3) := by decide +kernel
theorem dX7_written_10 : decode cX7_written 10 = .ok (.iload_n 2, 1) := by decide +kernel
theorem dX7_written_11 : decode cX7_written 11 = .ok (.aload_n 0, 1) := by decide +kernel
theorem dX7_written_12 : decode cX7_written 12 = .ok (.iload_n 1, 1) := by decide +kernel
theorem dX7_written_13 : decode cX7_written 13 = .ok (.iload_n 3, 1) := by decide +kernel
theorem dX7_written_14 : decode cX7_written 14 = .ok (.invokevirtual 64, 3) := by decide +kernel
theorem dX7_written_17 : decode cX7_written 17 = .ok (.ifCond .eq 7, 3) := by decide +kernel
theorem dX7_written_20 : decode cX7_written 20 = .ok (.iconst 1, 1) := by decide +kernel
theorem dX7_written_21 : decode cX7_written 21 = .ok (.goto 4, 3) := by decide +kernel
theorem dX7_written_24 : decode cX7_written 24 = .ok (.iconst 0, 1) := by decide +kernel
theorem dX7_written_25 : decode cX7_written 25 = .ok (.iadd, 1) := by decide +kernel
theorem dX7_written_26 : decode cX7_written 26 = .ok (.istore_n 2, 1) := by decide +kernel
theorem dX7_written_27 : decode cX7_written 27 = .ok (.iinc 3 1, 3) := by decide +kernel
theorem dX7_written_30 : decode cX7_written 30 = .ok (.goto (-26), 3) := by decide +kernel
theorem dX7_written_33 : decode cX7_written 33 = .ok (.iload_n 2, 1) := by decide +kernel
theorem dX7_written_34 : decode cX7_written 34 = .ok (.ireturn, 1) := by decide +kernel
set_option maxRecDepth 20000 in
theorem ggX7_isVersion_X7_of : GoodIn wsX7_isVersion wsX7_of := goodIn_r _ [5, 6, 11, 12, 13, 14, 15, 16, 17, 18] (by decide +kernel) (by decide +kernel)
set_option maxRecDepth 20000 in
theorem gX7_isVersion_X7_of : GoodIn wsX7_isVersion (wsV RX7 61 RX7 yX7_of wsX7_of) := goodIn_app (goodIn_of _ (by decide +kernel)) ggX7_isVersion_X7_of
set_option maxRecDepth 20000 in
theorem ggX7_isVersion_X7_hasWritten : GoodIn wsX7_isVersion wsX7_hasWritten := goodIn_r _ [10, 1, 2, 3, 4, 5, 6, 11, 12, 13, 14, 15, 16, 17, 18] (by decide +kernel) (by decide +kernel)
set_option maxRecDepth 20000 in
theorem gX7_isVersion_X7_hasWritten : GoodIn wsX7_isVersion (wsV RX7 64 RX7 yX7_hasWritten wsX7_hasWritten) := goodIn_app (goodIn_of _ (by decide +kernel)) ggX7_isVersion_X7_hasWritten
theorem dX7_isVersion_0 : decode cX7_isVersion 0 = .ok (.aload_n 0, 1) := by decide +kernel
theorem dX7_isVersion_1 : decode cX7_isVersion 1 = .ok (.iload_n 1, 1) := by decide +kernel
theorem dX7_isVersion_2 : decode cX7_isVersion 2 = .ok (.iconst 1, 1) := by decide +kernel
theorem dX7_isVersion_3 : decode cX7_isVersion 3 = .ok (.invokevirtual 61, 3) := by decide +kernel
theorem dX7_isVersion_6 : decode cX7_isVersion 6 = .ok (.iconst 2, 1) := by decide +kernel
theorem dX7_isVersion_7 : decode cX7_isVersion 7 = .ok (.if_icmp .ne 16, 3) := by decide +kernel
theorem dX7_isVersion_10 : decode cX7_isVersion 10 = .ok (.aload_n 0, 1) := by decide +kernel
theorem dX7_isVersion_11 : decode cX7_isVersion 11 = .ok (.iload_n 1, 1) := by decide +kernel
theorem dX7_isVersion_12 : decode cX7_isVersion 12 = .ok (.iload_n 2, 1) := by decide +kernel
theorem dX7_isVersion_13 : decode cX7_isVersion 13 = .ok (.invokevirtual 64, 3) := by decide +kernel
theorem dX7_isVersion_16 : decode cX7_isVersion 16 = .ok (.ifCond .eq 7, 3) := by decide +kernel
theorem dX7_isVersion_19 : decode cX7_isVersion 19 = .ok (.iconst 1, 1) := by decide +kernel
theorem dX7_isVersion_20 : decode cX7_isVersion 20 = .ok (.goto 4, 3) := by decide +kernel
theorem dX7_isVersion_23 : decode cX7_isVersion 23 = .ok (.iconst 0, 1) := by decide +kernel
theorem dX7_isVersion_24 : decode cX7_isVersion 24 = .ok (.ireturn, 1) := by decide +kernel
set_option maxRecDepth 20000 in
theorem ggX7_writer_X7_isVersion : GoodIn wsX7_writer wsX7_isVersion := goodIn_r _ [6, 7, 8, 9, 5, 10, 1, 11, 12, 13, 14, 15, 16, 17, 18, 19, 20, 21, 22] (by decide +kernel) (by decide +kernel)
set_option maxRecDepth 20000 in
theorem gX7_writer_X7_isVersion : GoodIn wsX7_writer (wsV RX7 67 RX7 yX7_isVersion wsX7_isVersion) := goodIn_app (goodIn_of _ (by decide +kernel)) ggX7_writer_X7_isVersion
set_option maxRecDepth 20000 in
theorem ggX7_writer_X7_of : GoodIn wsX7_writer wsX7_of := goodIn_r _ [10, 1, 15, 16, 17, 18, 19, 20, 21, 22] (by decide +kernel) (by decide +kernel)
set_option maxRecDepth 20000 in
theorem gX7_writer_X7_of : GoodIn wsX7_writer (wsV RX7 61 RX7 yX7_of wsX7_of) := goodIn_app (goodIn_of _ (by decide +kernel)) ggX7_writer_X7_of
theorem dX7_writer_0 : decode cX7_writer 0 = .ok (.iconst (-1), 1) := by decide +kernel
theorem dX7_writer_1 : decode cX7_writer 1 = .ok (.istore_n 3, 1) := by decide +kernel
theorem dX7_writer_2 : decode cX7_writer 2 = .ok (.iconst 0, 1) := by decide +kernel
theorem dX7_writer_3 : decode cX7_writer 3 = .ok (.istore 4, 2) := by decide +kernel
theorem dX7_writer_5 : decode cX7_writer 5 = .ok (.iload 4, 2) := by decide +kernel
theorem dX7_writer_7 : decode cX7_writer 7 = .ok (.aload_n 0, 1) := by decide +kernel
theorem dX7_writer_8 : decode cX7_writer 8 = .ok (.getfield 7, 3) := by decide +kernel
theorem dX7_writer_11 : decode cX7_writer 11 = .ok (.iconst 3, 1) := by decide +kernel
theorem dX7_writer_12 : decode cX7_writer 12 = .ok (.iaload, 1) := by decide +kernel
theorem dX7_writer_13 : decode cX7_writer 13 = .ok (.if_icmp .ge 54, 3) := by decide +kernel
theorem dX7_writer_16 : decode cX7_writer 16 = .ok (.aload_n 0, 1) := by decide +kernel
theorem dX7_writer_17 : decode cX7_writer 17 = .ok (.iload 4, 2) := by decide +kernel
theorem dX7_writer_19 : decode cX7_writer 19 = .ok (.iload_n 1, 1) := by decide +kernel
theorem dX7_writer_20 : decode cX7_writer 20 = .ok (.invokevirtual 67, 3) := by decide +kernel
theorem dX7_writer_23 : decode cX7_writer 23 = .ok (.ifCond .eq 38, 3) := by decide +kernel
theorem dX7_writer_26 : decode cX7_writer 26 = .ok (.aload_n 0, 1) := by decide +kernel
theorem dX7_writer_27 : decode cX7_writer 27 = .ok (.iload 4, 2) := by decide +kernel
theorem dX7_writer_29 : decode cX7_writer 29 = .ok (.iconst 2, 1) := by decide +kernel
theorem dX7_writer_30 : decode cX7_writer 30 = .ok (.invokevirtual 61, 3) := by decide +kernel
theorem dX7_writer_33 : decode cX7_writer 33 = .ok (.iload_n 2, 1) := by decide +kernel
theorem dX7_writer_34 : decode cX7_writer 34 = .ok (.if_icmp .gt 27, 3) := by decide +kernel
theorem dX7_writer_37 : decode cX7_writer 37 = .ok (.iload_n 3, 1) := by decide +kernel
theorem dX7_writer_38 : decode cX7_writer 38 = .ok (.iconst (-1), 1) := by decide +kernel
theorem dX7_writer_39 : decode cX7_writer 39 = .ok (.if_icmp .eq 19, 3) := by decide +kernel
theorem dX7_writer_42 : decode cX7_writer 42 = .ok (.aload_n 0, 1) := by decide +kernel
theorem dX7_writer_43 : decode cX7_writer 43 = .ok (.iload 4, 2) := by decide +kernel
theorem dX7_writer_45 : decode cX7_writer 45 = .ok (.iconst 2, 1) := by decide +kernel
theorem dX7_writer_46 : decode cX7_writer 46 = .ok (.invokevirtual 61, 3) := by decide +kernel
theorem dX7_writer_49 : decode cX7_writer 49 = .ok (.aload_n 0, 1) := by decide +kernel
theorem dX7_writer_50 : decode cX7_writer 50 = .ok (.iload_n 3, 1) := by decide +kernel
theorem dX7_writer_51 : decode cX7_writer 51 = .ok (.iconst 2, 1) := by decide +kernel
theorem dX7_writer_52 : decode cX7_writer 52 = .ok (.invokevirtual 61, 3) := by decide +kernel
theorem dX7_writer_55 : decode cX7_writer 55 = .ok (.if_icmp .le 6, 3) := by decide +kernel
theorem dX7_writer_58 : decode cX7_writer 58 = .ok (.iload 4, 2) := by decide +kernel
theorem dX7_writer_60 : decode cX7_writer 60 = .ok (.istore_n 3, 1) := by decide +kernel
theorem dX7_writer_61 : decode cX7_writer 61 = .ok (.iinc 4 1, 3) := by decide +kernel
theorem dX7_writer_64 : decode cX7_writer 64 = .ok (.goto (-59), 3) := by decide +kernel
theorem dX7_writer_67 : decode cX7_writer 67 = .ok (.iload_n 3, 1) := by decide +kernel
theorem dX7_writer_68 : decode cX7_writer 68 = .ok (.ireturn, 1) := by decide +kernel
set_option maxRecDepth 20000 in
theorem ggX7_value_X7_writer : GoodIn wsX7_value wsX7_writer := goodIn_r _ [5, 6, 7, 8, 9, 4, 10, 11, 12, 13, 14, 15, 16, 17, 18, 19, 20, 21, 22, 23, 24, 25, 26] (by decide +kernel) (by decide +kernel)
set_option maxRecDepth 20000 in
theorem gX7_value_X7_writer : GoodIn wsX7_value (wsV RX7 70 RX7 yX7_writer wsX7_writer) := goodIn_app (goodIn_of _ (by decide +kernel)) ggX7_value_X7_writer
set_option maxRecDepth 20000 in
theorem ggX7_value_X7_of : GoodIn wsX7_value wsX7_of := goodIn_r _ [14, 6, 19, 20, 21, 22, 23, 24, 25, 26] (by decide +kernel) (by decide +kernel)
set_option maxRecDepth 20000 in
theorem gX7_value_X7_of : GoodIn wsX7_value (wsV RX7 61 RX7 yX7_of wsX7_of) := goodIn_app (goodIn_of _ (by decide +kernel)) ggX7_value_X7_of
theorem dX7_value_0 : decode cX7_value 0 = .ok (.aload_n 0, 1) := by decide +kernel
theorem dX7_value_1 : decode cX7_value 1 = .ok (.iload_n 1, 1) := by decide +kernel
theorem dX7_value_2 : decode cX7_value 2 = .ok (.iload_n 2, 1) := by decide +kernel
theorem dX7_value_3 : decode cX7_value 3 = .ok (.invokevirtual 70, 3) := by decide +kernel
theorem dX7_value_6 : decode cX7_value 6 = .ok (.istore_n 3, 1) := by decide +kernel
theorem dX7_value_7 : decode cX7_value 7 = .ok (.iload_n 3, 1) := by decide +kernel
theorem dX7_value_8 : decode cX7_value 8 = .ok (.iconst (-1), 1) := by decide +kernel
theorem dX7_value_9 : decode cX7_value 9 = .ok (.if_icmp .ne 7, 3) := by decide +kernel
theorem dX7_value_12 : decode cX7_value 12 = .ok (.iconst 0, 1) := by decide +kernel
theorem dX7_value_13 : decode cX7_value 13 = .ok (.goto 11, 3) := by decide +kernel
theorem dX7_value_16 : decode cX7_value 16 = .ok (.aload_n 0, 1) := by decide +kernel
theorem dX7_value_17 : decode cX7_value 17 = .ok (.iload_n 3, 1) := by decide +kernel
theorem dX7_value_18 : decode cX7_value 18 = .ok (.iconst 5, 1) := by decide +kernel
theorem dX7_value_19 : decode cX7_value 19 = .ok (.iload_n 1, 1) := by decide +kernel
theorem dX7_value_20 : decode cX7_value 20 = .ok (.iadd, 1) := by decide +kernel
theorem dX7_value_21 : decode cX7_value 21 = .ok (.invokevirtual 61, 3) := by decide +kernel
theorem dX7_value_24 : decode cX7_value 24 = .ok (.ireturn, 1) := by decide +kernel
set_option maxRecDepth 20000 in
theorem ggX7_newest_X7_writer : GoodIn wsX7_newest wsX7_writer := goodIn_r _ [6, 7, 8, 9, 10, 5, 11, 12, 13, 14, 15, 16, 17, 18, 19, 20, 21, 22, 23, 24, 25, 26, 27] (by decide +kernel) (by decide +kernel)
set_option maxRecDepth 20000 in
theorem gX7_newest_X7_writer : GoodIn wsX7_newest (wsV RX7 70 RX7 yX7_writer wsX7_writer) := goodIn_app (goodIn_of _ (by decide +kernel)) ggX7_newest_X7_writer
set_option maxRecDepth 20000 in
theorem ggX7_newest_X7_of : GoodIn wsX7_newest wsX7_of := goodIn_r _ [15, 7, 20, 21, 22, 23, 24, 25, 26, 27] (by decide +kernel) (by decide +kernel)
set_option maxRecDepth 20000 in
theorem gX7_newest_X7_of : GoodIn wsX7_newest (wsV RX7 61 RX7 yX7_of wsX7_of) := goodIn_app (goodIn_of _ (by decide +kernel)) ggX7_newest_X7_of
theorem dX7_newest_0 : decode cX7_newest 0 = .ok (.aload_n 0, 1) := by decide +kernel
theorem dX7_newest_1 : decode cX7_newest 1 = .ok (.iload_n 1, 1) := by decide +kernel
theorem dX7_newest_2 : decode cX7_newest 2 = .ok (.ldc 73, 2) := by decide +kernel
theorem dX7_newest_4 : decode cX7_newest 4 = .ok (.invokevirtual 70, 3) := by decide +kernel
theorem dX7_newest_7 : decode cX7_newest 7 = .ok (.istore_n 2, 1) := by decide +kernel
theorem dX7_newest_8 : decode cX7_newest 8 = .ok (.iload_n 2, 1) := by decide +kernel
theorem dX7_newest_9 : decode cX7_newest 9 = .ok (.iconst (-1), 1) := by decide +kernel
theorem dX7_newest_10 : decode cX7_newest 10 = .ok (.if_icmp .ne 7, 3) := by decide +kernel
theorem dX7_newest_13 : decode cX7_newest 13 = .ok (.iconst 0, 1) := by decide +kernel
theorem dX7_newest_14 : decode cX7_newest 14 = .ok (.goto 9, 3) := by decide +kernel
theorem dX7_newest_17 : decode cX7_newest 17 = .ok (.aload_n 0, 1) := by decide +kernel
theorem dX7_newest_18 : decode cX7_newest 18 = .ok (.iload_n 2, 1) := by decide +kernel
theorem dX7_newest_19 : decode cX7_newest 19 = .ok (.iconst 2, 1) := by decide +kernel
theorem dX7_newest_20 : decode cX7_newest 20 = .ok (.invokevirtual 61, 3) := by decide +kernel
theorem dX7_newest_23 : decode cX7_newest 23 = .ok (.ireturn, 1) := by decide +kernel
set_option maxRecDepth 20000 in
theorem ggX7_mark_X7_of : GoodIn wsX7_mark wsX7_of := goodIn_r _ [6, 1, 14, 15, 16, 17, 18, 19, 20, 21] (by decide +kernel) (by decide +kernel)
set_option maxRecDepth 20000 in
theorem gX7_mark_X7_of : GoodIn wsX7_mark (wsV RX7 61 RX7 yX7_of wsX7_of) := goodIn_app (goodIn_of _ (by decide +kernel)) ggX7_mark_X7_of
set_option maxRecDepth 20000 in
theorem ggX7_mark_X7_hasRead : GoodIn wsX7_mark wsX7_hasRead := goodIn_r _ [10, 2, 3, 4, 5, 6, 1, 14, 15, 16, 17, 18, 19, 20, 21] (by decide +kernel) (by decide +kernel)
set_option maxRecDepth 20000 in
theorem gX7_mark_X7_hasRead : GoodIn wsX7_mark (wsV RX7 74 RX7 yX7_hasRead wsX7_hasRead) := goodIn_app (goodIn_of _ (by decide +kernel)) ggX7_mark_X7_hasRead
set_option maxRecDepth 20000 in
theorem ggX7_mark_X7_greater : GoodIn wsX7_mark wsX7_greater := goodIn_r _ [13] (by decide +kernel) (by decide +kernel)
set_option maxRecDepth 20000 in
theorem gX7_mark_X7_greater : GoodIn wsX7_mark (va_wsS RX7 77 yX7_greater wsX7_greater) := goodIn_app (goodIn_of _ (by decide +kernel)) ggX7_mark_X7_greater
theorem dX7_mark_0 : decode cX7_mark 0 = .ok (.iconst 0, 1) := by decide +kernel
theorem dX7_mark_1 : decode cX7_mark 1 = .ok (.istore_n 2, 1) := by decide +kernel
theorem dX7_mark_2 : decode cX7_mark 2 = .ok (.iconst 0, 1) := by decide +kernel
theorem dX7_mark_3 : decode cX7_mark 3 = .ok (.istore_n 3, 1) := by decide +kernel
theorem dX7_mark_4 : decode cX7_mark 4 = .ok (.iload_n 3, 1) := by decide +kernel
theorem dX7_mark_5 : decode cX7_mark 5 = .ok (.aload_n 0, 1) := by decide +kernel
theorem dX7_mark_6 : decode cX7_mark 6 = .ok (.getfield 7, 3) := by decide +kernel
theorem dX7_mark_9 : decode cX7_mark 9 = .ok (.iconst 3, 1) := by decide +kernel
theorem dX7_mark_10 : decode cX7_mark 10 = .ok (.iaload, 1) := by decide +kernel
theorem dX7_mark_11 : decode cX7_mark 11 = .ok (.if_icmp .ge 43, 3) := by decide +kernel
theorem dX7_mark_14 : decode cX7_mark 14 = .ok (.aload_n 0, 1) := by decide +kernel
theorem dX7_mark_15 : decode cX7_mark 15 = .ok (.iload_n 3, 1) := by decide +kernel
theorem dX7_mark_16 : decode cX7_mark 16 = .ok (.iconst 1, 1) := by decide +kernel
theorem dX7_mark_17 : decode cX7_mark 17 = .ok (.invokevirtual 61, 3) := by decide +kernel
theorem dX7_mark_20 : decode cX7_mark 20 = .ok (.iconst 2, 1) := by decide +kernel
theorem dX7_mark_21 : decode cX7_mark 21 = .ok (.if_icmp .ne 25, 3) := by decide +kernel
theorem dX7_mark_24 : decode cX7_mark 24 = .ok (.aload_n 0, 1) := by decide +kernel
theorem dX7_mark_25 : decode cX7_mark 25 = .ok (.iload_n 3, 1) := by decide +kernel
theorem dX7_mark_26 : decode cX7_mark 26 = .ok (.iload_n 1, 1) := by decide +kernel
theorem dX7_mark_27 : decode cX7_mark 27 = .ok (.invokevirtual 74, 3) := by decide +kernel
theorem dX7_mark_30 : decode cX7_mark 30 = .ok (.ifCond .eq 16, 3) := by decide +kernel
theorem dX7_mark_33 : decode cX7_mark 33 = .ok (.iload_n 2, 1) := by decide +kernel
theorem dX7_mark_34 : decode cX7_mark 34 = .ok (.aload_n 0, 1) := by decide +kernel
theorem dX7_mark_35 : decode cX7_mark 35 = .ok (.iload_n 3, 1) := by decide +kernel
theorem dX7_mark_36 : decode cX7_mark 36 = .ok (.iconst 2, 1) := by decide +kernel
theorem dX7_mark_37 : decode cX7_mark 37 = .ok (.invokevirtual 61, 3) := by decide +kernel
theorem dX7_mark_40 : decode cX7_mark 40 = .ok (.invokestatic 77, 3) := by decide +kernel
theorem dX7_mark_43 : decode cX7_mark 43 = .ok (.goto 4, 3) := by decide +kernel
theorem dX7_mark_46 : decode cX7_mark 46 = .ok (.iload_n 2, 1) := by decide +kernel
theorem dX7_mark_47 : decode cX7_mark 47 = .ok (.istore_n 2, 1) := by decide +kernel
theorem dX7_mark_48 : decode cX7_mark 48 = .ok (.iinc 3 1, 3) := by decide +kernel
theorem dX7_mark_51 : decode cX7_mark 51 = .ok (.goto (-47), 3) := by decide +kernel
theorem dX7_mark_54 : decode cX7_mark 54 = .ok (.iload_n 2, 1) := by decide +kernel
theorem dX7_mark_55 : decode cX7_mark 55 = .ok (.ireturn, 1) := by decide +kernel
set_option maxRecDepth 20000 in
theorem ggX7_isConflict_X7_hasRead : GoodIn wsX7_isConflict wsX7_hasRead := goodIn_r _ [5, 6, 7, 8, 4, 9, 10, 28, 29, 30, 31, 32, 33, 34, 35] (by decide +kernel) (by decide +kernel)
set_option maxRecDepth 20000 in
theorem gX7_isConflict_X7_hasRead : GoodIn wsX7_isConflict (wsV RX7 74 RX7 yX7_hasRead wsX7_hasRead) := goodIn_app (goodIn_of _ (by decide +kernel)) ggX7_isConflict_X7_hasRead
set_option maxRecDepth 20000 in
theorem ggX7_isConflict_X7_newest : GoodIn wsX7_isConflict wsX7_newest := goodIn_r _ [14, 15, 16, 17, 18, 4, 19, 10, 20, 21, 22, 23, 6, 7, 8, 9, 24, 25, 26, 27, 28, 29, 30, 31, 32, 33, 34, 35] (by decide +kernel) (by decide +kernel)
set_option maxRecDepth 20000 in
theorem gX7_isConflict_X7_newest : GoodIn wsX7_isConflict (wsV RX7 80 RX7 yX7_newest wsX7_newest) := goodIn_app (goodIn_of _ (by decide +kernel)) ggX7_isConflict_X7_newest
set_option maxRecDepth 20000 in
theorem ggX7_isConflict_X7_of : GoodIn wsX7_isConflict wsX7_of := goodIn_r _ [9, 10, 28, 29, 30, 31, 32, 33, 34, 35] (by decide +kernel) (by decide +kernel)
set_option maxRecDepth 20000 in
theorem gX7_isConflict_X7_of : GoodIn wsX7_isConflict (wsV RX7 61 RX7 yX7_of wsX7_of) := goodIn_app (goodIn_of _ (by decide +kernel)) ggX7_isConflict_X7_of
theorem dX7_isConflict_0 : decode cX7_isConflict 0 = .ok (.iconst 0, 1) := by decide +kernel
theorem dX7_isConflict_1 : decode cX7_isConflict 1 = .ok (.istore_n 2, 1) := by decide +kernel
theorem dX7_isConflict_2 : decode cX7_isConflict 2 = .ok (.iconst 0, 1) := by decide +kernel
theorem dX7_isConflict_3 : decode cX7_isConflict 3 = .ok (.istore_n 3, 1) := by decide +kernel
theorem dX7_isConflict_4 : decode cX7_isConflict 4 = .ok (.iload_n 3, 1) := by decide +kernel
theorem dX7_isConflict_5 : decode cX7_isConflict 5 = .ok (.bipush 8, 2) := by decide +kernel
theorem dX7_isConflict_7 : decode cX7_isConflict 7 = .ok (.if_icmp .ge 45, 3) := by decide +kernel
theorem dX7_isConflict_10 : decode cX7_isConflict 10 = .ok (.iload_n 2, 1) := by decide +kernel
theorem dX7_isConflict_11 : decode cX7_isConflict 11 = .ok (.ifCond .ne 29, 3) := by decide +kernel
theorem dX7_isConflict_14 : decode cX7_isConflict 14 = .ok (.aload_n 0, 1) := by decide +kernel
theorem dX7_isConflict_15 : decode cX7_isConflict 15 = .ok (.iload_n 1, 1) := by decide +kernel
theorem dX7_isConflict_16 : decode cX7_isConflict 16 = .ok (.iload_n 3, 1) := by decide +kernel
theorem dX7_isConflict_17 : decode cX7_isConflict 17 = .ok (.invokevirtual 74, 3) := by decide +kernel
theorem dX7_isConflict_20 : decode cX7_isConflict 20 = .ok (.ifCond .eq 24, 3) := by decide +kernel
theorem dX7_isConflict_23 : decode cX7_isConflict 23 = .ok (.aload_n 0, 1) := by decide +kernel
theorem dX7_isConflict_24 : decode cX7_isConflict 24 = .ok (.iload_n 3, 1) := by decide +kernel
theorem dX7_isConflict_25 : decode cX7_isConflict 25 = .ok (.invokevirtual 80, 3) := by decide +kernel
theorem dX7_isConflict_28 : decode cX7_isConflict 28 = .ok (.aload_n 0, 1) := by decide +kernel
theorem dX7_isConflict_29 : decode cX7_isConflict 29 = .ok (.iload_n 1, 1) := by decide +kernel
theorem dX7_isConflict_30 : decode cX7_isConflict 30 = .ok (.bipush 13, 2) := by decide +kernel
theorem dX7_isConflict_32 : decode cX7_isConflict 32 = .ok (.iload_n 3, 1) := by decide +kernel
theorem dX7_isConflict_33 : decode cX7_isConflict 33 = .ok (.iadd, 1) := by decide +kernel
theorem dX7_isConflict_34 : decode cX7_isConflict 34 = .ok (.invokevirtual 61, 3) := by decide +kernel
theorem dX7_isConflict_37 : decode cX7_isConflict 37 = .ok (.if_icmp .eq 7, 3) := by decide +kernel
theorem dX7_isConflict_40 : decode cX7_isConflict 40 = .ok (.iconst 1, 1) := by decide +kernel
theorem dX7_isConflict_41 : decode cX7_isConflict 41 = .ok (.goto 4, 3) := by decide +kernel
theorem dX7_isConflict_44 : decode cX7_isConflict 44 = .ok (.iconst 0, 1) := by decide +kernel
theorem dX7_isConflict_45 : decode cX7_isConflict 45 = .ok (.istore_n 2, 1) := by decide +kernel
theorem dX7_isConflict_46 : decode cX7_isConflict 46 = .ok (.iinc 3 1, 3) := by decide +kernel
theorem dX7_isConflict_49 : decode cX7_isConflict 49 = .ok (.goto (-45), 3) := by decide +kernel
theorem dX7_isConflict_52 : decode cX7_isConflict 52 = .ok (.iload_n 2, 1) := by decide +kernel
theorem dX7_isConflict_53 : decode cX7_isConflict 53 = .ok (.ireturn, 1) := by decide +kernel
set_option maxRecDepth 20000 in
theorem ggX7_bars_X7_hasRead : GoodIn wsX7_bars wsX7_hasRead := goodIn_r _ [5, 6, 7, 8, 4, 9, 10, 15, 16, 17, 18, 19, 20, 21, 22] (by decide +kernel) (by decide +kernel)
set_option maxRecDepth 20000 in
theorem gX7_bars_X7_hasRead : GoodIn wsX7_bars (wsV RX7 74 RX7 yX7_hasRead wsX7_hasRead) := goodIn_app (goodIn_of _ (by decide +kernel)) ggX7_bars_X7_hasRead
set_option maxRecDepth 20000 in
theorem ggX7_bars_X7_hasWritten : GoodIn wsX7_bars wsX7_hasWritten := goodIn_r _ [14, 6, 7, 8, 4, 9, 10, 15, 16, 17, 18, 19, 20, 21, 22] (by decide +kernel) (by decide +kernel)
set_option maxRecDepth 20000 in
theorem gX7_bars_X7_hasWritten : GoodIn wsX7_bars (wsV RX7 64 RX7 yX7_hasWritten wsX7_hasWritten) := goodIn_app (goodIn_of _ (by decide +kernel)) ggX7_bars_X7_hasWritten
theorem dX7_bars_0 : decode cX7_bars 0 = .ok (.iconst 0, 1) := by decide +kernel
theorem dX7_bars_1 : decode cX7_bars 1 = .ok (.istore_n 3, 1) := by decide +kernel
theorem dX7_bars_2 : decode cX7_bars 2 = .ok (.iconst 0, 1) := by decide +kernel
theorem dX7_bars_3 : decode cX7_bars 3 = .ok (.istore 4, 2) := by decide +kernel
theorem dX7_bars_5 : decode cX7_bars 5 = .ok (.iload 4, 2) := by decide +kernel
theorem dX7_bars_7 : decode cX7_bars 7 = .ok (.bipush 8, 2) := by decide +kernel
theorem dX7_bars_9 : decode cX7_bars 9 = .ok (.if_icmp .ge 81, 3) := by decide +kernel
theorem dX7_bars_12 : decode cX7_bars 12 = .ok (.aload_n 0, 1) := by decide +kernel
theorem dX7_bars_13 : decode cX7_bars 13 = .ok (.iload_n 2, 1) := by decide +kernel
theorem dX7_bars_14 : decode cX7_bars 14 = .ok (.iload 4, 2) := by decide +kernel
theorem dX7_bars_16 : decode cX7_bars 16 = .ok (.invokevirtual 74, 3) := by decide +kernel
theorem dX7_bars_19 : decode cX7_bars 19 = .ok (.ifCond .ne 13, 3) := by decide +kernel
theorem dX7_bars_22 : decode cX7_bars 22 = .ok (.aload_n 0, 1) := by decide +kernel
theorem dX7_bars_23 : decode cX7_bars 23 = .ok (.iload_n 2, 1) := by decide +kernel
theorem dX7_bars_24 : decode cX7_bars 24 = .ok (.iload 4, 2) := by decide +kernel
theorem dX7_bars_26 : decode cX7_bars 26 = .ok (.invokevirtual 64, 3) := by decide +kernel
theorem dX7_bars_29 : decode cX7_bars 29 = .ok (.ifCond .eq 7, 3) := by decide +kernel
theorem dX7_bars_32 : decode cX7_bars 32 = .ok (.iconst 1, 1) := by decide +kernel
theorem dX7_bars_33 : decode cX7_bars 33 = .ok (.goto 4, 3) := by decide +kernel
theorem dX7_bars_36 : decode cX7_bars 36 = .ok (.iconst 0, 1) := by decide +kernel
theorem dX7_bars_37 : decode cX7_bars 37 = .ok (.istore 5, 2) := by decide +kernel
theorem dX7_bars_39 : decode cX7_bars 39 = .ok (.iload_n 3, 1) := by decide +kernel
theorem dX7_bars_40 : decode cX7_bars 40 = .ok (.ifCond .ne 38, 3) := by decide +kernel
theorem dX7_bars_43 : decode cX7_bars 43 = .ok (.aload_n 0, 1) := by decide +kernel
theorem dX7_bars_44 : decode cX7_bars 44 = .ok (.iload_n 1, 1) := by decide +kernel
theorem dX7_bars_45 : decode cX7_bars 45 = .ok (.iload 4, 2) := by decide +kernel
theorem dX7_bars_47 : decode cX7_bars 47 = .ok (.invokevirtual 64, 3) := by decide +kernel
theorem dX7_bars_50 : decode cX7_bars 50 = .ok (.ifCond .eq 8, 3) := by decide +kernel
theorem dX7_bars_53 : decode cX7_bars 53 = .ok (.iload 5, 2) := by decide +kernel
theorem dX7_bars_55 : decode cX7_bars 55 = .ok (.ifCond .ne 23, 3) := by decide +kernel
theorem dX7_bars_58 : decode cX7_bars 58 = .ok (.aload_n 0, 1) := by decide +kernel
theorem dX7_bars_59 : decode cX7_bars 59 = .ok (.iload_n 1, 1) := by decide +kernel
theorem dX7_bars_60 : decode cX7_bars 60 = .ok (.iload 4, 2) := by decide +kernel
theorem dX7_bars_62 : decode cX7_bars 62 = .ok (.invokevirtual 74, 3) := by decide +kernel
theorem dX7_bars_65 : decode cX7_bars 65 = .ok (.ifCond .eq 17, 3) := by decide +kernel
theorem dX7_bars_68 : decode cX7_bars 68 = .ok (.aload_n 0, 1) := by decide +kernel
theorem dX7_bars_69 : decode cX7_bars 69 = .ok (.iload_n 2, 1) := by decide +kernel
theorem dX7_bars_70 : decode cX7_bars 70 = .ok (.iload 4, 2) := by decide +kernel
theorem dX7_bars_72 : decode cX7_bars 72 = .ok (.invokevirtual 64, 3) := by decide +kernel
theorem dX7_bars_75 : decode cX7_bars 75 = .ok (.ifCond .eq 7, 3) := by decide +kernel
theorem dX7_bars_78 : decode cX7_bars 78 = .ok (.iconst 1, 1) := by decide +kernel
theorem dX7_bars_79 : decode cX7_bars 79 = .ok (.goto 4, 3) := by decide +kernel
theorem dX7_bars_82 : decode cX7_bars 82 = .ok (.iconst 0, 1) := by decide +kernel
theorem dX7_bars_83 : decode cX7_bars 83 = .ok (.istore_n 3, 1) := by decide +kernel
theorem dX7_bars_84 : decode cX7_bars 84 = .ok (.iinc 4 1, 3) := by decide +kernel
theorem dX7_bars_87 : decode cX7_bars 87 = .ok (.goto (-82), 3) := by decide +kernel
theorem dX7_bars_90 : decode cX7_bars 90 = .ok (.iload_n 3, 1) := by decide +kernel
theorem dX7_bars_91 : decode cX7_bars 91 = .ok (.ireturn, 1) := by decide +kernel
set_option maxRecDepth 20000 in
theorem ggX7_isLocked_X7_of : GoodIn wsX7_isLocked wsX7_of := goodIn_r _ [6, 1, 19, 20, 21, 22, 23, 24, 25, 26] (by decide +kernel) (by decide +kernel)
set_option maxRecDepth 20000 in
theorem gX7_isLocked_X7_of : GoodIn wsX7_isLocked (wsV RX7 61 RX7 yX7_of wsX7_of) := goodIn_app (goodIn_of _ (by decide +kernel)) ggX7_isLocked_X7_of
set_option maxRecDepth 20000 in
theorem ggX7_isLocked_X7_bars : GoodIn wsX7_isLocked wsX7_bars := goodIn_r _ [10, 11, 12, 13, 5, 14, 2, 3, 4, 6, 1, 15, 16, 17, 18, 19, 20, 21, 22, 23, 24, 25, 26] (by decide +kernel) (by decide +kernel)
set_option maxRecDepth 20000 in
theorem gX7_isLocked_X7_bars : GoodIn wsX7_isLocked (wsV RX7 83 RX7 yX7_bars wsX7_bars) := goodIn_app (goodIn_of _ (by decide +kernel)) ggX7_isLocked_X7_bars
theorem dX7_isLocked_0 : decode cX7_isLocked 0 = .ok (.iconst 0, 1) := by decide +kernel
theorem dX7_isLocked_1 : decode cX7_isLocked 1 = .ok (.istore_n 2, 1) := by decide +kernel
theorem dX7_isLocked_2 : decode cX7_isLocked 2 = .ok (.iconst 0, 1) := by decide +kernel
theorem dX7_isLocked_3 : decode cX7_isLocked 3 = .ok (.istore_n 3, 1) := by decide +kernel
theorem dX7_isLocked_4 : decode cX7_isLocked 4 = .ok (.iload_n 3, 1) := by decide +kernel
theorem dX7_isLocked_5 : decode cX7_isLocked 5 = .ok (.aload_n 0, 1) := by decide +kernel
theorem dX7_isLocked_6 : decode cX7_isLocked 6 = .ok (.getfield 7, 3) := by decide +kernel
theorem dX7_isLocked_9 : decode cX7_isLocked 9 = .ok (.iconst 3, 1) := by decide +kernel
theorem dX7_isLocked_10 : decode cX7_isLocked 10 = .ok (.iaload, 1) := by decide +kernel
theorem dX7_isLocked_11 : decode cX7_isLocked 11 = .ok (.if_icmp .ge 38, 3) := by decide +kernel
theorem dX7_isLocked_14 : decode cX7_isLocked 14 = .ok (.iload_n 2, 1) := by decide +kernel
theorem dX7_isLocked_15 : decode cX7_isLocked 15 = .ok (.ifCond .ne 22, 3) := by decide +kernel
theorem dX7_isLocked_18 : decode cX7_isLocked 18 = .ok (.aload_n 0, 1) := by decide +kernel
theorem dX7_isLocked_19 : decode cX7_isLocked 19 = .ok (.iload_n 3, 1) := by decide +kernel
theorem dX7_isLocked_20 : decode cX7_isLocked 20 = .ok (.iconst 1, 1) := by decide +kernel
theorem dX7_isLocked_21 : decode cX7_isLocked 21 = .ok (.invokevirtual 61, 3) := by decide +kernel
theorem dX7_isLocked_24 : decode cX7_isLocked 24 = .ok (.iconst 1, 1) := by decide +kernel
theorem dX7_isLocked_25 : decode cX7_isLocked 25 = .ok (.if_icmp .ne 16, 3) := by decide +kernel
theorem dX7_isLocked_28 : decode cX7_isLocked 28 = .ok (.aload_n 0, 1) := by decide +kernel
theorem dX7_isLocked_29 : decode cX7_isLocked 29 = .ok (.iload_n 3, 1) := by decide +kernel
theorem dX7_isLocked_30 : decode cX7_isLocked 30 = .ok (.iload_n 1, 1) := by decide +kernel
theorem dX7_isLocked_31 : decode cX7_isLocked 31 = .ok (.invokevirtual 83, 3) := by decide +kernel
theorem dX7_isLocked_34 : decode cX7_isLocked 34 = .ok (.ifCond .eq 7, 3) := by decide +kernel
theorem dX7_isLocked_37 : decode cX7_isLocked 37 = .ok (.iconst 1, 1) := by decide +kernel
theorem dX7_isLocked_38 : decode cX7_isLocked 38 = .ok (.goto 4, 3) := by decide +kernel
theorem dX7_isLocked_41 : decode cX7_isLocked 41 = .ok (.iconst 0, 1) := by decide +kernel
theorem dX7_isLocked_42 : decode cX7_isLocked 42 = .ok (.istore_n 2, 1) := by decide +kernel
theorem dX7_isLocked_43 : decode cX7_isLocked 43 = .ok (.iinc 3 1, 3) := by decide +kernel
theorem dX7_isLocked_46 : decode cX7_isLocked 46 = .ok (.goto (-42), 3) := by decide +kernel
theorem dX7_isLocked_49 : decode cX7_isLocked 49 = .ok (.iload_n 2, 1) := by decide +kernel
theorem dX7_isLocked_50 : decode cX7_isLocked 50 = .ok (.ireturn, 1) := by decide +kernel
set_option maxRecDepth 20000 in
theorem ggX7_stamp_X7_of : GoodIn wsX7_stamp wsX7_of := goodIn_r _ [6, 1, 58, 59, 60, 61, 62, 63, 64, 65] (by decide +kernel) (by decide +kernel)
set_option maxRecDepth 20000 in
theorem gX7_stamp_X7_of : GoodIn wsX7_stamp (wsV RX7 61 RX7 yX7_of wsX7_of) := goodIn_app (goodIn_of _ (by decide +kernel)) ggX7_stamp_X7_of
set_option maxRecDepth 20000 in
theorem ggX7_stamp_X7_next : GoodIn wsX7_stamp wsX7_next := goodIn_r _ [10, 1, 11, 12, 5, 13, 14, 15, 16, 17, 18, 19, 20, 21, 22, 23, 24, 25, 26, 27, 28, 29, 30, 31, 32, 58, 59, 60, 61, 62, 63, 64, 65] (by decide +kernel) (by decide +kernel)
set_option maxRecDepth 20000 in
theorem gX7_stamp_X7_next : GoodIn wsX7_stamp (wsV RX7 86 RX7 yX7_next wsX7_next) := goodIn_app (goodIn_of _ (by decide +kernel)) ggX7_stamp_X7_next
set_option maxRecDepth 20000 in
theorem ggX7_stamp_X7_greater : GoodIn wsX7_stamp wsX7_greater := goodIn_r _ [13] (by decide +kernel) (by decide +kernel)
set_option maxRecDepth 20000 in
theorem gX7_stamp_X7_greater : GoodIn wsX7_stamp (va_wsS RX7 77 yX7_greater wsX7_greater) := goodIn_app (goodIn_of _ (by decide +kernel)) ggX7_stamp_X7_greater
set_option maxRecDepth 20000 in
theorem ggX7_stamp_X7_hasRead : GoodIn wsX7_stamp wsX7_hasRead := goodIn_r _ [36, 2, 3, 4, 5, 6, 1, 58, 59, 60, 61, 62, 63, 64, 65] (by decide +kernel) (by decide +kernel)
set_option maxRecDepth 20000 in
theorem gX7_stamp_X7_hasRead : GoodIn wsX7_stamp (wsV RX7 74 RX7 yX7_hasRead wsX7_hasRead) := goodIn_app (goodIn_of _ (by decide +kernel)) ggX7_stamp_X7_hasRead
set_option maxRecDepth 20000 in
theorem ggX7_stamp_X7_hasWritten : GoodIn wsX7_stamp wsX7_hasWritten := goodIn_r _ [40, 2, 3, 4, 5, 6, 1, 58, 59, 60, 61, 62, 63, 64, 65] (by decide +kernel) (by decide +kernel)
set_option maxRecDepth 20000 in
theorem gX7_stamp_X7_hasWritten : GoodIn wsX7_stamp (wsV RX7 64 RX7 yX7_hasWritten wsX7_hasWritten) := goodIn_app (goodIn_of _ (by decide +kernel)) ggX7_stamp_X7_hasWritten
set_option maxRecDepth 20000 in
theorem ggX7_stamp_X7_newest : GoodIn wsX7_stamp wsX7_newest := goodIn_r _ [44, 45, 46, 47, 48, 5, 49, 1, 50, 51, 52, 53, 2, 3, 4, 6, 37, 38, 39, 40, 58, 59, 60, 61, 62, 63, 64, 65] (by decide +kernel) (by decide +kernel)
set_option maxRecDepth 20000 in
theorem gX7_stamp_X7_newest : GoodIn wsX7_stamp (wsV RX7 80 RX7 yX7_newest wsX7_newest) := goodIn_app (goodIn_of _ (by decide +kernel)) ggX7_stamp_X7_newest
set_option maxRecDepth 20000 in
theorem ggX7_stamp_X7_mark : GoodIn wsX7_stamp wsX7_mark := goodIn_r _ [57, 1, 2, 3, 4, 5, 6, 33, 34, 35, 36, 11, 12, 13, 58, 59, 60, 61, 62, 63, 64, 65] (by decide +kernel) (by decide +kernel)
set_option maxRecDepth 20000 in
theorem gX7_stamp_X7_mark : GoodIn wsX7_stamp (wsV RX7 89 RX7 yX7_mark wsX7_mark) := goodIn_app (goodIn_of _ (by decide +kernel)) ggX7_stamp_X7_mark
theorem dX7_stamp_0 : decode cX7_stamp 0 = .ok (.aload_n 0, 1) := by decide +kernel
theorem dX7_stamp_1 : decode cX7_stamp 1 = .ok (.iload_n 1, 1) := by decide +kernel
theorem dX7_stamp_2 : decode cX7_stamp 2 = .ok (.iconst 0, 1) := by decide +kernel
theorem dX7_stamp_3 : decode cX7_stamp 3 = .ok (.invokevirtual 61, 3) := by decide +kernel
theorem dX7_stamp_6 : decode cX7_stamp 6 = .ok (.istore_n 2, 1) := by decide +kernel
theorem dX7_stamp_7 : decode cX7_stamp 7 = .ok (.aload_n 0, 1) := by decide +kernel
theorem dX7_stamp_8 : decode cX7_stamp 8 = .ok (.iload_n 2, 1) := by decide +kernel
theorem dX7_stamp_9 : decode cX7_stamp 9 = .ok (.aload_n 0, 1) := by decide +kernel
theorem dX7_stamp_10 : decode cX7_stamp 10 = .ok (.getfield 7, 3) := by decide +kernel
theorem dX7_stamp_13 : decode cX7_stamp 13 = .ok (.iconst 0, 1) := by decide +kernel
theorem dX7_stamp_14 : decode cX7_stamp 14 = .ok (.iaload, 1) := by decide +kernel
theorem dX7_stamp_15 : decode cX7_stamp 15 = .ok (.invokevirtual 86, 3) := by decide +kernel
theorem dX7_stamp_18 : decode cX7_stamp 18 = .ok (.iconst 0, 1) := by decide +kernel
theorem dX7_stamp_19 : decode cX7_stamp 19 = .ok (.invokestatic 77, 3) := by decide +kernel
theorem dX7_stamp_22 : decode cX7_stamp 22 = .ok (.istore_n 3, 1) := by decide +kernel
theorem dX7_stamp_23 : decode cX7_stamp 23 = .ok (.iconst 0, 1) := by decide +kernel
theorem dX7_stamp_24 : decode cX7_stamp 24 = .ok (.istore 4, 2) := by decide +kernel
theorem dX7_stamp_26 : decode cX7_stamp 26 = .ok (.iload 4, 2) := by decide +kernel
theorem dX7_stamp_28 : decode cX7_stamp 28 = .ok (.bipush 8, 2) := by decide +kernel
theorem dX7_stamp_30 : decode cX7_stamp 30 = .ok (.if_icmp .ge 65, 3) := by decide +kernel
theorem dX7_stamp_33 : decode cX7_stamp 33 = .ok (.aload_n 0, 1) := by decide +kernel
theorem dX7_stamp_34 : decode cX7_stamp 34 = .ok (.iload_n 1, 1) := by decide +kernel
theorem dX7_stamp_35 : decode cX7_stamp 35 = .ok (.iload 4, 2) := by decide +kernel
theorem dX7_stamp_37 : decode cX7_stamp 37 = .ok (.invokevirtual 74, 3) := by decide +kernel
theorem dX7_stamp_40 : decode cX7_stamp 40 = .ok (.ifCond .ne 13, 3) := by decide +kernel
theorem dX7_stamp_43 : decode cX7_stamp 43 = .ok (.aload_n 0, 1) := by decide +kernel
theorem dX7_stamp_44 : decode cX7_stamp 44 = .ok (.iload_n 1, 1) := by decide +kernel
theorem dX7_stamp_45 : decode cX7_stamp 45 = .ok (.iload 4, 2) := by decide +kernel
theorem dX7_stamp_47 : decode cX7_stamp 47 = .ok (.invokevirtual 64, 3) := by decide +kernel
theorem dX7_stamp_50 : decode cX7_stamp 50 = .ok (.ifCond .eq 16, 3) := by decide +kernel
theorem dX7_stamp_53 : decode cX7_stamp 53 = .ok (.iload_n 3, 1) := by decide +kernel
theorem dX7_stamp_54 : decode cX7_stamp 54 = .ok (.iconst 1, 1) := by decide +kernel
theorem dX7_stamp_55 : decode cX7_stamp 55 = .ok (.aload_n 0, 1) := by decide +kernel
theorem dX7_stamp_56 : decode cX7_stamp 56 = .ok (.iload 4, 2) := by decide +kernel
theorem dX7_stamp_58 : decode cX7_stamp 58 = .ok (.invokevirtual 80, 3) := by decide +kernel
theorem dX7_stamp_61 : decode cX7_stamp 61 = .ok (.iadd, 1) := by decide +kernel
theorem dX7_stamp_62 : decode cX7_stamp 62 = .ok (.invokestatic 77, 3) := by decide +kernel
theorem dX7_stamp_65 : decode cX7_stamp 65 = .ok (.istore_n 3, 1) := by decide +kernel
theorem dX7_stamp_66 : decode cX7_stamp 66 = .ok (.aload_n 0, 1) := by decide +kernel
theorem dX7_stamp_67 : decode cX7_stamp 67 = .ok (.iload_n 1, 1) := by decide +kernel
theorem dX7_stamp_68 : decode cX7_stamp 68 = .ok (.iload 4, 2) := by decide +kernel
theorem dX7_stamp_70 : decode cX7_stamp 70 = .ok (.invokevirtual 64, 3) := by decide +kernel
theorem dX7_stamp_73 : decode cX7_stamp 73 = .ok (.ifCond .eq 16, 3) := by decide +kernel
theorem dX7_stamp_76 : decode cX7_stamp 76 = .ok (.iload_n 3, 1) := by decide +kernel
theorem dX7_stamp_77 : decode cX7_stamp 77 = .ok (.iconst 1, 1) := by decide +kernel
theorem dX7_stamp_78 : decode cX7_stamp 78 = .ok (.aload_n 0, 1) := by decide +kernel
theorem dX7_stamp_79 : decode cX7_stamp 79 = .ok (.iload 4, 2) := by decide +kernel
theorem dX7_stamp_81 : decode cX7_stamp 81 = .ok (.invokevirtual 89, 3) := by decide +kernel
theorem dX7_stamp_84 : decode cX7_stamp 84 = .ok (.iadd, 1) := by decide +kernel
theorem dX7_stamp_85 : decode cX7_stamp 85 = .ok (.invokestatic 77, 3) := by decide +kernel
theorem dX7_stamp_88 : decode cX7_stamp 88 = .ok (.istore_n 3, 1) := by decide +kernel
theorem dX7_stamp_89 : decode cX7_stamp 89 = .ok (.iinc 4 1, 3) := by decide +kernel
theorem dX7_stamp_92 : decode cX7_stamp 92 = .ok (.goto (-66), 3) := by decide +kernel
theorem dX7_stamp_95 : decode cX7_stamp 95 = .ok (.iload_n 3, 1) := by decide +kernel
theorem dX7_stamp_96 : decode cX7_stamp 96 = .ok (.ireturn, 1) := by decide +kernel
set_option maxRecDepth 20000 in
theorem ggX7_outcome_X7_isConflict : GoodIn wsX7_outcome wsX7_isConflict := goodIn_r _ [5, 6, 7, 8, 4, 9, 10, 11, 12, 13, 14, 15, 16, 17, 18, 19, 20, 21, 22, 23, 24, 25, 26, 27, 28, 29, 30, 31, 74, 75, 76, 77, 78, 79, 80, 81] (by decide +kernel) (by decide +kernel)
set_option maxRecDepth 20000 in
theorem gX7_outcome_X7_isConflict : GoodIn wsX7_outcome (wsV RX7 92 RX7 yX7_isConflict wsX7_isConflict) := goodIn_app (goodIn_of _ (by decide +kernel)) ggX7_outcome_X7_isConflict
set_option maxRecDepth 20000 in
theorem ggX7_outcome_X7_isLocked : GoodIn wsX7_outcome wsX7_isLocked := goodIn_r _ [35, 14, 10, 11, 12, 4, 13, 36, 37, 38, 39, 6, 7, 8, 9, 28, 29, 30, 31, 74, 75, 76, 77, 78, 79, 80, 81] (by decide +kernel) (by decide +kernel)
set_option maxRecDepth 20000 in
theorem gX7_outcome_X7_isLocked : GoodIn wsX7_outcome (wsV RX7 96 RX7 yX7_isLocked wsX7_isLocked) := goodIn_app (goodIn_of _ (by decide +kernel)) ggX7_outcome_X7_isLocked
set_option maxRecDepth 20000 in
theorem ggX7_outcome_X7_stamp : GoodIn wsX7_outcome wsX7_stamp := goodIn_r _ [43, 14, 10, 11, 12, 4, 13, 44, 45, 46, 47, 48, 49, 50, 51, 52, 53, 54, 55, 56, 57, 58, 59, 60, 61, 62, 63, 64, 65, 66, 67, 68, 69, 6, 7, 8, 9, 28, 29, 30, 31, 15, 16, 17, 18, 19, 20, 21, 22, 23, 24, 25, 26, 27, 70, 71, 72, 73, 74, 75, 76, 77, 78, 79, 80, 81] (by decide +kernel) (by decide +kernel)
set_option maxRecDepth 20000 in
theorem gX7_outcome_X7_stamp : GoodIn wsX7_outcome (wsV RX7 99 RX7 yX7_stamp wsX7_stamp) := goodIn_app (goodIn_of _ (by decide +kernel)) ggX7_outcome_X7_stamp
theorem dX7_outcome_0 : decode cX7_outcome 0 = .ok (.aload_n 0, 1) := by decide +kernel
theorem dX7_outcome_1 : decode cX7_outcome 1 = .ok (.iload_n 1, 1) := by decide +kernel
theorem dX7_outcome_2 : decode cX7_outcome 2 = .ok (.invokevirtual 92, 3) := by decide +kernel
theorem dX7_outcome_5 : decode cX7_outcome 5 = .ok (.ifCond .eq 6, 3) := by decide +kernel
theorem dX7_outcome_8 : decode cX7_outcome 8 = .ok (.bipush (-2), 2) := by decide +kernel
theorem dX7_outcome_10 : decode cX7_outcome 10 = .ok (.ireturn, 1) := by decide +kernel
theorem dX7_outcome_11 : decode cX7_outcome 11 = .ok (.aload_n 0, 1) := by decide +kernel
theorem dX7_outcome_12 : decode cX7_outcome 12 = .ok (.iload_n 1, 1) := by decide +kernel
theorem dX7_outcome_13 : decode cX7_outcome 13 = .ok (.invokevirtual 96, 3) := by decide +kernel
theorem dX7_outcome_16 : decode cX7_outcome 16 = .ok (.ifCond .eq 8, 3) := by decide +kernel
theorem dX7_outcome_19 : decode cX7_outcome 19 = .ok (.bipush (-3), 2) := by decide +kernel
theorem dX7_outcome_21 : decode cX7_outcome 21 = .ok (.goto 8, 3) := by decide +kernel
theorem dX7_outcome_24 : decode cX7_outcome 24 = .ok (.aload_n 0, 1) := by decide +kernel
theorem dX7_outcome_25 : decode cX7_outcome 25 = .ok (.iload_n 1, 1) := by decide +kernel
theorem dX7_outcome_26 : decode cX7_outcome 26 = .ok (.invokevirtual 99, 3) := by decide +kernel
theorem dX7_outcome_29 : decode cX7_outcome 29 = .ok (.ireturn, 1) := by decide +kernel
set_option maxRecDepth 20000 in
theorem ggX7_next_X7_greater : GoodIn wsX7_next wsX7_greater := goodIn_r _ [5] (by decide +kernel) (by decide +kernel)
set_option maxRecDepth 20000 in
theorem gX7_next_X7_greater : GoodIn wsX7_next (va_wsS RX7 77 yX7_greater wsX7_greater) := goodIn_app (goodIn_of _ (by decide +kernel)) ggX7_next_X7_greater
set_option maxRecDepth 20000 in
theorem ggX7_next_X7_latestAt : GoodIn wsX7_next wsX7_latestAt := goodIn_r _ [9, 10, 11, 12, 4, 13, 14, 15, 16, 17, 1, 18, 19, 20, 21, 22, 23, 24, 25, 26, 27, 28, 29, 30, 31, 32] (by decide +kernel) (by decide +kernel)
set_option maxRecDepth 20000 in
theorem gX7_next_X7_latestAt : GoodIn wsX7_next (wsV RX7 54 RX7 yX7_latestAt wsX7_latestAt) := goodIn_app (goodIn_of _ (by decide +kernel)) ggX7_next_X7_latestAt
theorem dX7_next_0 : decode cX7_next 0 = .ok (.iconst 1, 1) := by decide +kernel
theorem dX7_next_1 : decode cX7_next 1 = .ok (.aload_n 0, 1) := by decide +kernel
theorem dX7_next_2 : decode cX7_next 2 = .ok (.getfield 7, 3) := by decide +kernel
theorem dX7_next_5 : decode cX7_next 5 = .ok (.iconst 4, 1) := by decide +kernel
theorem dX7_next_6 : decode cX7_next 6 = .ok (.iload_n 1, 1) := by decide +kernel
theorem dX7_next_7 : decode cX7_next 7 = .ok (.iadd, 1) := by decide +kernel
theorem dX7_next_8 : decode cX7_next 8 = .ok (.iaload, 1) := by decide +kernel
theorem dX7_next_9 : decode cX7_next 9 = .ok (.aload_n 0, 1) := by decide +kernel
theorem dX7_next_10 : decode cX7_next 10 = .ok (.getfield 7, 3) := by decide +kernel
theorem dX7_next_13 : decode cX7_next 13 = .ok (.iconst 1, 1) := by decide +kernel
theorem dX7_next_14 : decode cX7_next 14 = .ok (.iaload, 1) := by decide +kernel
theorem dX7_next_15 : decode cX7_next 15 = .ok (.invokestatic 77, 3) := by decide +kernel
theorem dX7_next_18 : decode cX7_next 18 = .ok (.iadd, 1) := by decide +kernel
theorem dX7_next_19 : decode cX7_next 19 = .ok (.istore_n 3, 1) := by decide +kernel
theorem dX7_next_20 : decode cX7_next 20 = .ok (.aload_n 0, 1) := by decide +kernel
theorem dX7_next_21 : decode cX7_next 21 = .ok (.iload_n 1, 1) := by decide +kernel
theorem dX7_next_22 : decode cX7_next 22 = .ok (.iload_n 2, 1) := by decide +kernel
theorem dX7_next_23 : decode cX7_next 23 = .ok (.invokevirtual 54, 3) := by decide +kernel
theorem dX7_next_26 : decode cX7_next 26 = .ok (.iload_n 3, 1) := by decide +kernel
theorem dX7_next_27 : decode cX7_next 27 = .ok (.invokestatic 77, 3) := by decide +kernel
theorem dX7_next_30 : decode cX7_next 30 = .ok (.ireturn, 1) := by decide +kernel
set_option maxRecDepth 20000 in
theorem ggX7_whyNotBegin_X7_isServer : GoodIn wsX7_whyNotBegin wsX7_isServer := goodIn_r _ [5, 6, 7, 4, 8] (by decide +kernel) (by decide +kernel)
set_option maxRecDepth 20000 in
theorem gX7_whyNotBegin_X7_isServer : GoodIn wsX7_whyNotBegin (va_wsS RX7 102 yX7_isServer wsX7_isServer) := goodIn_app (goodIn_of _ (by decide +kernel)) ggX7_whyNotBegin_X7_isServer
theorem dX7_whyNotBegin_0 : decode cX7_whyNotBegin 0 = .ok (.iload_n 1, 1) := by decide +kernel
theorem dX7_whyNotBegin_1 : decode cX7_whyNotBegin 1 = .ok (.invokestatic 102, 3) := by decide +kernel
theorem dX7_whyNotBegin_4 : decode cX7_whyNotBegin 4 = .ok (.ifCond .ne 7, 3) := by decide +kernel
theorem dX7_whyNotBegin_7 : decode cX7_whyNotBegin 7 = .ok (.iconst 1, 1) := by decide +kernel
theorem dX7_whyNotBegin_8 : decode cX7_whyNotBegin 8 = .ok (.goto 19, 3) := by decide +kernel
theorem dX7_whyNotBegin_11 : decode cX7_whyNotBegin 11 = .ok (.aload_n 0, 1) := by decide +kernel
theorem dX7_whyNotBegin_12 : decode cX7_whyNotBegin 12 = .ok (.getfield 7, 3) := by decide +kernel
theorem dX7_whyNotBegin_15 : decode cX7_whyNotBegin 15 = .ok (.iconst 3, 1) := by decide +kernel
theorem dX7_whyNotBegin_16 : decode cX7_whyNotBegin 16 = .ok (.iaload, 1) := by decide +kernel
theorem dX7_whyNotBegin_17 : decode cX7_whyNotBegin 17 = .ok (.bipush 40, 2) := by decide +kernel
theorem dX7_whyNotBegin_19 : decode cX7_whyNotBegin 19 = .ok (.if_icmp .ne 7, 3) := by decide +kernel
theorem dX7_whyNotBegin_22 : decode cX7_whyNotBegin 22 = .ok (.iconst 2, 1) := by decide +kernel
theorem dX7_whyNotBegin_23 : decode cX7_whyNotBegin 23 = .ok (.goto 4, 3) := by decide +kernel
theorem dX7_whyNotBegin_26 : decode cX7_whyNotBegin 26 = .ok (.iconst 0, 1) := by decide +kernel
theorem dX7_whyNotBegin_27 : decode cX7_whyNotBegin 27 = .ok (.ireturn, 1) := by decide +kernel
set_option maxRecDepth 20000 in
theorem ggX7_whyNot_X7_isTransaction : GoodIn wsX7_whyNot wsX7_isTransaction := goodIn_r _ [5, 6, 7, 8, 4, 9, 14, 15, 16, 17, 18, 19, 20, 21] (by decide +kernel) (by decide +kernel)
set_option maxRecDepth 20000 in
theorem gX7_whyNot_X7_isTransaction : GoodIn wsX7_whyNot (wsV RX7 105 RX7 yX7_isTransaction wsX7_isTransaction) := goodIn_app (goodIn_of _ (by decide +kernel)) ggX7_whyNot_X7_isTransaction
set_option maxRecDepth 20000 in
theorem ggX7_whyNot_X7_of : GoodIn wsX7_whyNot wsX7_of := goodIn_r _ [13, 6, 14, 15, 16, 17, 18, 19, 20, 21] (by decide +kernel) (by decide +kernel)
set_option maxRecDepth 20000 in
theorem gX7_whyNot_X7_of : GoodIn wsX7_whyNot (wsV RX7 61 RX7 yX7_of wsX7_of) := goodIn_app (goodIn_of _ (by decide +kernel)) ggX7_whyNot_X7_of
theorem dX7_whyNot_0 : decode cX7_whyNot 0 = .ok (.aload_n 0, 1) := by decide +kernel
theorem dX7_whyNot_1 : decode cX7_whyNot 1 = .ok (.iload_n 1, 1) := by decide +kernel
theorem dX7_whyNot_2 : decode cX7_whyNot 2 = .ok (.invokevirtual 105, 3) := by decide +kernel
theorem dX7_whyNot_5 : decode cX7_whyNot 5 = .ok (.ifCond .ne 7, 3) := by decide +kernel
theorem dX7_whyNot_8 : decode cX7_whyNot 8 = .ok (.iconst 1, 1) := by decide +kernel
theorem dX7_whyNot_9 : decode cX7_whyNot 9 = .ok (.goto 17, 3) := by decide +kernel
theorem dX7_whyNot_12 : decode cX7_whyNot 12 = .ok (.aload_n 0, 1) := by decide +kernel
theorem dX7_whyNot_13 : decode cX7_whyNot 13 = .ok (.iload_n 1, 1) := by decide +kernel
theorem dX7_whyNot_14 : decode cX7_whyNot 14 = .ok (.iconst 1, 1) := by decide +kernel
theorem dX7_whyNot_15 : decode cX7_whyNot 15 = .ok (.invokevirtual 61, 3) := by decide +kernel
theorem dX7_whyNot_18 : decode cX7_whyNot 18 = .ok (.ifCond .eq 7, 3) := by decide +kernel
theorem dX7_whyNot_21 : decode cX7_whyNot 21 = .ok (.iconst 2, 1) := by decide +kernel
theorem dX7_whyNot_22 : decode cX7_whyNot 22 = .ok (.goto 4, 3) := by decide +kernel
theorem dX7_whyNot_25 : decode cX7_whyNot 25 = .ok (.iconst 0, 1) := by decide +kernel
theorem dX7_whyNot_26 : decode cX7_whyNot 26 = .ok (.ireturn, 1) := by decide +kernel
set_option maxRecDepth 20000 in
theorem ggX7_whyNotRead_X7_isKey : GoodIn wsX7_whyNotRead wsX7_isKey := goodIn_r _ [4, 5, 6, 3, 7] (by decide +kernel) (by decide +kernel)
set_option maxRecDepth 20000 in
theorem gX7_whyNotRead_X7_isKey : GoodIn wsX7_whyNotRead (va_wsS RX7 108 yX7_isKey wsX7_isKey) := goodIn_app (goodIn_of _ (by decide +kernel)) ggX7_whyNotRead_X7_isKey
set_option maxRecDepth 20000 in
theorem ggX7_whyNotRead_X7_whyNot : GoodIn wsX7_whyNotRead wsX7_whyNot := goodIn_r _ [11, 12, 13, 14, 3, 15, 16, 5, 6, 7, 17, 18, 19, 20, 21, 22, 23, 24, 25, 26, 27, 28] (by decide +kernel) (by decide +kernel)
set_option maxRecDepth 20000 in
theorem gX7_whyNotRead_X7_whyNot : GoodIn wsX7_whyNotRead (wsV RX7 111 RX7 yX7_whyNot wsX7_whyNot) := goodIn_app (goodIn_of _ (by decide +kernel)) ggX7_whyNotRead_X7_whyNot
theorem dX7_whyNotRead_0 : decode cX7_whyNotRead 0 = .ok (.iload_n 2, 1) := by decide +kernel
theorem dX7_whyNotRead_1 : decode cX7_whyNotRead 1 = .ok (.invokestatic 108, 3) := by decide +kernel
theorem dX7_whyNotRead_4 : decode cX7_whyNotRead 4 = .ok (.ifCond .ne 7, 3) := by decide +kernel
theorem dX7_whyNotRead_7 : decode cX7_whyNotRead 7 = .ok (.iconst 1, 1) := by decide +kernel
theorem dX7_whyNotRead_8 : decode cX7_whyNotRead 8 = .ok (.goto 8, 3) := by decide +kernel
theorem dX7_whyNotRead_11 : decode cX7_whyNotRead 11 = .ok (.aload_n 0, 1) := by decide +kernel
theorem dX7_whyNotRead_12 : decode cX7_whyNotRead 12 = .ok (.iload_n 1, 1) := by decide +kernel
theorem dX7_whyNotRead_13 : decode cX7_whyNotRead 13 = .ok (.invokevirtual 111, 3) := by decide +kernel
theorem dX7_whyNotRead_16 : decode cX7_whyNotRead 16 = .ok (.ireturn, 1) := by decide +kernel
set_option maxRecDepth 20000 in
theorem ggX7_whyNotWrite_X7_isTransaction : GoodIn wsX7_whyNotWrite wsX7_isTransaction := goodIn_r _ [5, 6, 7, 8, 4, 9, 17, 18, 19, 20, 21, 22, 23, 24] (by decide +kernel) (by decide +kernel)
set_option maxRecDepth 20000 in
theorem gX7_whyNotWrite_X7_isTransaction : GoodIn wsX7_whyNotWrite (wsV RX7 105 RX7 yX7_isTransaction wsX7_isTransaction) := goodIn_app (goodIn_of _ (by decide +kernel)) ggX7_whyNotWrite_X7_isTransaction
set_option maxRecDepth 20000 in
theorem ggX7_whyNotWrite_X7_isKey : GoodIn wsX7_whyNotWrite wsX7_isKey := goodIn_r _ [12, 7, 8, 4, 9] (by decide +kernel) (by decide +kernel)
set_option maxRecDepth 20000 in
theorem gX7_whyNotWrite_X7_isKey : GoodIn wsX7_whyNotWrite (va_wsS RX7 108 yX7_isKey wsX7_isKey) := goodIn_app (goodIn_of _ (by decide +kernel)) ggX7_whyNotWrite_X7_isKey
set_option maxRecDepth 20000 in
theorem ggX7_whyNotWrite_X7_in : GoodIn wsX7_whyNotWrite wsX7_in := goodIn_r _ [9] (by decide +kernel) (by decide +kernel)
set_option maxRecDepth 20000 in
theorem gX7_whyNotWrite_X7_in : GoodIn wsX7_whyNotWrite (va_wsS RX7 30 yX7_in wsX7_in) := goodIn_app (goodIn_of _ (by decide +kernel)) ggX7_whyNotWrite_X7_in
set_option maxRecDepth 20000 in
theorem ggX7_whyNotWrite_X7_of : GoodIn wsX7_whyNotWrite wsX7_of := goodIn_r _ [16, 6, 17, 18, 19, 20, 21, 22, 23, 24] (by decide +kernel) (by decide +kernel)
set_option maxRecDepth 20000 in
theorem gX7_whyNotWrite_X7_of : GoodIn wsX7_whyNotWrite (wsV RX7 61 RX7 yX7_of wsX7_of) := goodIn_app (goodIn_of _ (by decide +kernel)) ggX7_whyNotWrite_X7_of
theorem dX7_whyNotWrite_0 : decode cX7_whyNotWrite 0 = .ok (.aload_n 0, 1) := by decide +kernel
theorem dX7_whyNotWrite_1 : decode cX7_whyNotWrite 1 = .ok (.iload_n 1, 1) := by decide +kernel
theorem dX7_whyNotWrite_2 : decode cX7_whyNotWrite 2 = .ok (.invokevirtual 105, 3) := by decide +kernel
theorem dX7_whyNotWrite_5 : decode cX7_whyNotWrite 5 = .ok (.ifCond .eq 10, 3) := by decide +kernel
theorem dX7_whyNotWrite_8 : decode cX7_whyNotWrite 8 = .ok (.iload_n 2, 1) := by decide +kernel
theorem dX7_whyNotWrite_9 : decode cX7_whyNotWrite 9 = .ok (.invokestatic 108, 3) := by decide +kernel
theorem dX7_whyNotWrite_12 : decode cX7_whyNotWrite 12 = .ok (.ifCond .ne 5, 3) := by decide +kernel
theorem dX7_whyNotWrite_15 : decode cX7_whyNotWrite 15 = .ok (.iconst 1, 1) := by decide +kernel
theorem dX7_whyNotWrite_16 : decode cX7_whyNotWrite 16 = .ok (.ireturn, 1) := by decide +kernel
theorem dX7_whyNotWrite_17 : decode cX7_whyNotWrite 17 = .ok (.iload_n 3, 1) := by decide +kernel
theorem dX7_whyNotWrite_18 : decode cX7_whyNotWrite 18 = .ok (.iconst 0, 1) := by decide +kernel
theorem dX7_whyNotWrite_19 : decode cX7_whyNotWrite 19 = .ok (.sipush 9999, 3) := by decide +kernel
theorem dX7_whyNotWrite_22 : decode cX7_whyNotWrite 22 = .ok (.invokestatic 30, 3) := by decide +kernel
theorem dX7_whyNotWrite_25 : decode cX7_whyNotWrite 25 = .ok (.ifCond .ne 7, 3) := by decide +kernel
theorem dX7_whyNotWrite_28 : decode cX7_whyNotWrite 28 = .ok (.iconst 2, 1) := by decide +kernel
theorem dX7_whyNotWrite_29 : decode cX7_whyNotWrite 29 = .ok (.goto 17, 3) := by decide +kernel
theorem dX7_whyNotWrite_32 : decode cX7_whyNotWrite 32 = .ok (.aload_n 0, 1) := by decide +kernel
theorem dX7_whyNotWrite_33 : decode cX7_whyNotWrite 33 = .ok (.iload_n 1, 1) := by decide +kernel
theorem dX7_whyNotWrite_34 : decode cX7_whyNotWrite 34 = .ok (.iconst 1, 1) := by decide +kernel
theorem dX7_whyNotWrite_35 : decode cX7_whyNotWrite 35 = .ok (.invokevirtual 61, 3) := by decide +kernel
theorem dX7_whyNotWrite_38 : decode cX7_whyNotWrite 38 = .ok (.ifCond .eq 7, 3) := by decide +kernel
theorem dX7_whyNotWrite_41 : decode cX7_whyNotWrite 41 = .ok (.iconst 3, 1) := by decide +kernel
theorem dX7_whyNotWrite_42 : decode cX7_whyNotWrite 42 = .ok (.goto 4, 3) := by decide +kernel
theorem dX7_whyNotWrite_45 : decode cX7_whyNotWrite 45 = .ok (.iconst 0, 1) := by decide +kernel
theorem dX7_whyNotWrite_46 : decode cX7_whyNotWrite 46 = .ok (.ireturn, 1) := by decide +kernel
set_option maxRecDepth 20000 in
theorem ggX7_whyNotAdvance_X7_in : GoodIn wsX7_whyNotAdvance wsX7_in := goodIn_r _ [6] (by decide +kernel) (by decide +kernel)
set_option maxRecDepth 20000 in
theorem gX7_whyNotAdvance_X7_in : GoodIn wsX7_whyNotAdvance (va_wsS RX7 30 yX7_in wsX7_in) := goodIn_app (goodIn_of _ (by decide +kernel)) ggX7_whyNotAdvance_X7_in
theorem dX7_whyNotAdvance_0 : decode cX7_whyNotAdvance 0 = .ok (.iload_n 1, 1) := by decide +kernel
theorem dX7_whyNotAdvance_1 : decode cX7_whyNotAdvance 1 = .ok (.iconst 1, 1) := by decide +kernel
theorem dX7_whyNotAdvance_2 : decode cX7_whyNotAdvance 2 = .ok (.sipush 1000, 3) := by decide +kernel
theorem dX7_whyNotAdvance_5 : decode cX7_whyNotAdvance 5 = .ok (.invokestatic 30, 3) := by decide +kernel
theorem dX7_whyNotAdvance_8 : decode cX7_whyNotAdvance 8 = .ok (.ifCond .ne 7, 3) := by decide +kernel
theorem dX7_whyNotAdvance_11 : decode cX7_whyNotAdvance 11 = .ok (.iconst 1, 1) := by decide +kernel
theorem dX7_whyNotAdvance_12 : decode cX7_whyNotAdvance 12 = .ok (.goto 21, 3) := by decide +kernel
theorem dX7_whyNotAdvance_15 : decode cX7_whyNotAdvance 15 = .ok (.aload_n 0, 1) := by decide +kernel
theorem dX7_whyNotAdvance_16 : decode cX7_whyNotAdvance 16 = .ok (.getfield 7, 3) := by decide +kernel
theorem dX7_whyNotAdvance_19 : decode cX7_whyNotAdvance 19 = .ok (.iconst 0, 1) := by decide +kernel
theorem dX7_whyNotAdvance_20 : decode cX7_whyNotAdvance 20 = .ok (.iaload, 1) := by decide +kernel
theorem dX7_whyNotAdvance_21 : decode cX7_whyNotAdvance 21 = .ok (.iload_n 1, 1) := by decide +kernel
theorem dX7_whyNotAdvance_22 : decode cX7_whyNotAdvance 22 = .ok (.iadd, 1) := by decide +kernel
theorem dX7_whyNotAdvance_23 : decode cX7_whyNotAdvance 23 = .ok (.ldc 114, 2) := by decide +kernel
theorem dX7_whyNotAdvance_25 : decode cX7_whyNotAdvance 25 = .ok (.if_icmp .le 7, 3) := by decide +kernel
theorem dX7_whyNotAdvance_28 : decode cX7_whyNotAdvance 28 = .ok (.iconst 2, 1) := by decide +kernel
theorem dX7_whyNotAdvance_29 : decode cX7_whyNotAdvance 29 = .ok (.goto 4, 3) := by decide +kernel
theorem dX7_whyNotAdvance_32 : decode cX7_whyNotAdvance 32 = .ok (.iconst 0, 1) := by decide +kernel
theorem dX7_whyNotAdvance_33 : decode cX7_whyNotAdvance 33 = .ok (.ireturn, 1) := by decide +kernel
set_option maxRecDepth 20000 in
theorem ggX7_whyNotSynchronize_X7_isServer : GoodIn wsX7_whyNotSynchronize wsX7_isServer := goodIn_r _ [4, 5, 6, 3, 7] (by decide +kernel) (by decide +kernel)
set_option maxRecDepth 20000 in
theorem gX7_whyNotSynchronize_X7_isServer : GoodIn wsX7_whyNotSynchronize (va_wsS RX7 102 yX7_isServer wsX7_isServer) := goodIn_app (goodIn_of _ (by decide +kernel)) ggX7_whyNotSynchronize_X7_isServer
set_option maxRecDepth 20000 in
theorem ggX7_whyNotSynchronize_X7_in : GoodIn wsX7_whyNotSynchronize wsX7_in := goodIn_r _ [7] (by decide +kernel) (by decide +kernel)
set_option maxRecDepth 20000 in
theorem gX7_whyNotSynchronize_X7_in : GoodIn wsX7_whyNotSynchronize (va_wsS RX7 30 yX7_in wsX7_in) := goodIn_app (goodIn_of _ (by decide +kernel)) ggX7_whyNotSynchronize_X7_in
theorem dX7_whyNotSynchronize_0 : decode cX7_whyNotSynchronize 0 = .ok (.iload_n 1, 1) := by decide +kernel
theorem dX7_whyNotSynchronize_1 : decode cX7_whyNotSynchronize 1 = .ok (.invokestatic 102, 3) := by decide +kernel
theorem dX7_whyNotSynchronize_4 : decode cX7_whyNotSynchronize 4 = .ok (.ifCond .ne 7, 3) := by decide +kernel
theorem dX7_whyNotSynchronize_7 : decode cX7_whyNotSynchronize 7 = .ok (.iconst 1, 1) := by decide +kernel
theorem dX7_whyNotSynchronize_8 : decode cX7_whyNotSynchronize 8 = .ok (.goto 21, 3) := by decide +kernel
theorem dX7_whyNotSynchronize_11 : decode cX7_whyNotSynchronize 11 = .ok (.iload_n 2, 1) := by decide +kernel
theorem dX7_whyNotSynchronize_12 : decode cX7_whyNotSynchronize 12 = .ok (.sipush (-500), 3) := by decide +kernel
theorem dX7_whyNotSynchronize_15 : decode cX7_whyNotSynchronize 15 = .ok (.sipush 500, 3) := by decide +kernel
theorem dX7_whyNotSynchronize_18 : decode cX7_whyNotSynchronize 18 = .ok (.invokestatic 30, 3) := by decide +kernel
theorem dX7_whyNotSynchronize_21 : decode cX7_whyNotSynchronize 21 = .ok (.ifCond .ne 7, 3) := by decide +kernel
theorem dX7_whyNotSynchronize_24 : decode cX7_whyNotSynchronize 24 = .ok (.iconst 2, 1) := by decide +kernel
theorem dX7_whyNotSynchronize_25 : decode cX7_whyNotSynchronize 25 = .ok (.goto 4, 3) := by decide +kernel
theorem dX7_whyNotSynchronize_28 : decode cX7_whyNotSynchronize 28 = .ok (.iconst 0, 1) := by decide +kernel
theorem dX7_whyNotSynchronize_29 : decode cX7_whyNotSynchronize 29 = .ok (.ireturn, 1) := by decide +kernel
set_option maxRecDepth 20000 in
theorem ggX7_begins_X7_lays : GoodIn wsX7_begins wsX7_lays := goodIn_r _ [6, 1, 7, 8, 9, 10, 11, 12, 13, 14] (by decide +kernel) (by decide +kernel)
set_option maxRecDepth 20000 in
theorem gX7_begins_X7_lays : GoodIn wsX7_begins (wsV RX7 115 RX7 yX7_lays wsX7_lays) := goodIn_app (goodIn_of _ (by decide +kernel)) ggX7_begins_X7_lays
theorem dX7_begins_0 : decode cX7_begins 0 = .ok (.bipush 21, 2) := by decide +kernel
theorem dX7_begins_2 : decode cX7_begins 2 = .ok (.aload_n 0, 1) := by decide +kernel
theorem dX7_begins_3 : decode cX7_begins 3 = .ok (.getfield 7, 3) := by decide +kernel
theorem dX7_begins_6 : decode cX7_begins 6 = .ok (.iconst 3, 1) := by decide +kernel
theorem dX7_begins_7 : decode cX7_begins 7 = .ok (.iaload, 1) := by decide +kernel
theorem dX7_begins_8 : decode cX7_begins 8 = .ok (.imul, 1) := by decide +kernel
theorem dX7_begins_9 : decode cX7_begins 9 = .ok (.istore_n 2, 1) := by decide +kernel
theorem dX7_begins_10 : decode cX7_begins 10 = .ok (.aload_n 0, 1) := by decide +kernel
theorem dX7_begins_11 : decode cX7_begins 11 = .ok (.iload_n 2, 1) := by decide +kernel
theorem dX7_begins_12 : decode cX7_begins 12 = .ok (.iconst 0, 1) := by decide +kernel
theorem dX7_begins_13 : decode cX7_begins 13 = .ok (.iadd, 1) := by decide +kernel
theorem dX7_begins_14 : decode cX7_begins 14 = .ok (.iload_n 1, 1) := by decide +kernel
theorem dX7_begins_15 : decode cX7_begins 15 = .ok (.invokevirtual 115, 3) := by decide +kernel
theorem dX7_begins_18 : decode cX7_begins 18 = .ok (.aload_n 0, 1) := by decide +kernel
theorem dX7_begins_19 : decode cX7_begins 19 = .ok (.iload_n 2, 1) := by decide +kernel
theorem dX7_begins_20 : decode cX7_begins 20 = .ok (.iconst 1, 1) := by decide +kernel
theorem dX7_begins_21 : decode cX7_begins 21 = .ok (.iadd, 1) := by decide +kernel
theorem dX7_begins_22 : decode cX7_begins 22 = .ok (.iconst 0, 1) := by decide +kernel
theorem dX7_begins_23 : decode cX7_begins 23 = .ok (.invokevirtual 115, 3) := by decide +kernel
theorem dX7_begins_26 : decode cX7_begins 26 = .ok (.iconst 2, 1) := by decide +kernel
theorem dX7_begins_27 : decode cX7_begins 27 = .ok (.istore_n 3, 1) := by decide +kernel
theorem dX7_begins_28 : decode cX7_begins 28 = .ok (.iload_n 3, 1) := by decide +kernel
theorem dX7_begins_29 : decode cX7_begins 29 = .ok (.bipush 21, 2) := by decide +kernel
theorem dX7_begins_31 : decode cX7_begins 31 = .ok (.if_icmp .ge 17, 3) := by decide +kernel
theorem dX7_begins_34 : decode cX7_begins 34 = .ok (.aload_n 0, 1) := by decide +kernel
theorem dX7_begins_35 : decode cX7_begins 35 = .ok (.iload_n 2, 1) := by decide +kernel
theorem dX7_begins_36 : decode cX7_begins 36 = .ok (.iload_n 3, 1) := by decide +kernel
theorem dX7_begins_37 : decode cX7_begins 37 = .ok (.iadd, 1) := by decide +kernel
theorem dX7_begins_38 : decode cX7_begins 38 = .ok (.iconst (-1), 1) := by decide +kernel
theorem dX7_begins_39 : decode cX7_begins 39 = .ok (.invokevirtual 115, 3) := by decide +kernel
theorem dX7_begins_42 : decode cX7_begins 42 = .ok (.iinc 3 1, 3) := by decide +kernel
theorem dX7_begins_45 : decode cX7_begins 45 = .ok (.goto (-17), 3) := by decide +kernel
theorem dX7_begins_48 : decode cX7_begins 48 = .ok (.aload_n 0, 1) := by decide +kernel
theorem dX7_begins_49 : decode cX7_begins 49 = .ok (.getfield 7, 3) := by decide +kernel
theorem dX7_begins_52 : decode cX7_begins 52 = .ok (.iconst 3, 1) := by decide +kernel
theorem dX7_begins_53 : decode cX7_begins 53 = .ok (.dup2, 1) := by decide +kernel
theorem dX7_begins_54 : decode cX7_begins 54 = .ok (.iaload, 1) := by decide +kernel
theorem dX7_begins_55 : decode cX7_begins 55 = .ok (.iconst 1, 1) := by decide +kernel
theorem dX7_begins_56 : decode cX7_begins 56 = .ok (.iadd, 1) := by decide +kernel
theorem dX7_begins_57 : decode cX7_begins 57 = .ok (.iastore, 1) := by decide +kernel
theorem dX7_begins_58 : decode cX7_begins 58 = .ok (.aload_n 0, 1) := by decide +kernel
theorem dX7_begins_59 : decode cX7_begins 59 = .ok (.getfield 7, 3) := by decide +kernel
theorem dX7_begins_62 : decode cX7_begins 62 = .ok (.iconst 3, 1) := by decide +kernel
theorem dX7_begins_63 : decode cX7_begins 63 = .ok (.iaload, 1) := by decide +kernel
theorem dX7_begins_64 : decode cX7_begins 64 = .ok (.iconst 1, 1) := by decide +kernel
theorem dX7_begins_65 : decode cX7_begins 65 = .ok (.isub, 1) := by decide +kernel
theorem dX7_begins_66 : decode cX7_begins 66 = .ok (.ireturn, 1) := by decide +kernel
set_option maxRecDepth 20000 in
theorem ggX7_reads_X7_hasWritten : GoodIn wsX7_reads wsX7_hasWritten := goodIn_r _ [5, 6, 7, 8, 4, 9, 10, 36, 37, 38, 39, 40, 41, 42, 43] (by decide +kernel) (by decide +kernel)
set_option maxRecDepth 20000 in
theorem gX7_reads_X7_hasWritten : GoodIn wsX7_reads (wsV RX7 64 RX7 yX7_hasWritten wsX7_hasWritten) := goodIn_app (goodIn_of _ (by decide +kernel)) ggX7_reads_X7_hasWritten
set_option maxRecDepth 20000 in
theorem ggX7_reads_X7_of : GoodIn wsX7_reads wsX7_of := goodIn_r _ [9, 10, 36, 37, 38, 39, 40, 41, 42, 43] (by decide +kernel) (by decide +kernel)
set_option maxRecDepth 20000 in
theorem gX7_reads_X7_of : GoodIn wsX7_reads (wsV RX7 61 RX7 yX7_of wsX7_of) := goodIn_app (goodIn_of _ (by decide +kernel)) ggX7_reads_X7_of
set_option maxRecDepth 20000 in
theorem ggX7_reads_X7_hasRead : GoodIn wsX7_reads wsX7_hasRead := goodIn_r _ [14, 6, 7, 8, 4, 9, 10, 36, 37, 38, 39, 40, 41, 42, 43] (by decide +kernel) (by decide +kernel)
set_option maxRecDepth 20000 in
theorem gX7_reads_X7_hasRead : GoodIn wsX7_reads (wsV RX7 74 RX7 yX7_hasRead wsX7_hasRead) := goodIn_app (goodIn_of _ (by decide +kernel)) ggX7_reads_X7_hasRead
set_option maxRecDepth 20000 in
theorem ggX7_reads_X7_newest : GoodIn wsX7_reads wsX7_newest := goodIn_r _ [18, 19, 20, 21, 22, 4, 23, 10, 24, 25, 26, 27, 6, 7, 8, 9, 1, 2, 3, 5, 36, 37, 38, 39, 40, 41, 42, 43] (by decide +kernel) (by decide +kernel)
set_option maxRecDepth 20000 in
theorem gX7_reads_X7_newest : GoodIn wsX7_reads (wsV RX7 80 RX7 yX7_newest wsX7_newest) := goodIn_app (goodIn_of _ (by decide +kernel)) ggX7_reads_X7_newest
set_option maxRecDepth 20000 in
theorem ggX7_reads_X7_lays : GoodIn wsX7_reads wsX7_lays := goodIn_r _ [31, 10, 36, 37, 38, 39, 40, 41, 42, 43] (by decide +kernel) (by decide +kernel)
set_option maxRecDepth 20000 in
theorem gX7_reads_X7_lays : GoodIn wsX7_reads (wsV RX7 115 RX7 yX7_lays wsX7_lays) := goodIn_app (goodIn_of _ (by decide +kernel)) ggX7_reads_X7_lays
set_option maxRecDepth 20000 in
theorem ggX7_reads_X7_value : GoodIn wsX7_reads wsX7_value := goodIn_r _ [35, 20, 21, 22, 4, 23, 10, 24, 25, 26, 27, 6, 7, 8, 9, 1, 2, 3, 5, 36, 37, 38, 39, 40, 41, 42, 43] (by decide +kernel) (by decide +kernel)
set_option maxRecDepth 20000 in
theorem gX7_reads_X7_value : GoodIn wsX7_reads (wsV RX7 119 RX7 yX7_value wsX7_value) := goodIn_app (goodIn_of _ (by decide +kernel)) ggX7_reads_X7_value
theorem dX7_reads_0 : decode cX7_reads 0 = .ok (.aload_n 0, 1) := by decide +kernel
theorem dX7_reads_1 : decode cX7_reads 1 = .ok (.iload_n 1, 1) := by decide +kernel
theorem dX7_reads_2 : decode cX7_reads 2 = .ok (.iload_n 2, 1) := by decide +kernel
theorem dX7_reads_3 : decode cX7_reads 3 = .ok (.invokevirtual 64, 3) := by decide +kernel
theorem dX7_reads_6 : decode cX7_reads 6 = .ok (.ifCond .eq 12, 3) := by decide +kernel
theorem dX7_reads_9 : decode cX7_reads 9 = .ok (.aload_n 0, 1) := by decide +kernel
theorem dX7_reads_10 : decode cX7_reads 10 = .ok (.iload_n 1, 1) := by decide +kernel
theorem dX7_reads_11 : decode cX7_reads 11 = .ok (.iconst 5, 1) := by decide +kernel
theorem dX7_reads_12 : decode cX7_reads 12 = .ok (.iload_n 2, 1) := by decide +kernel
theorem dX7_reads_13 : decode cX7_reads 13 = .ok (.iadd, 1) := by decide +kernel
theorem dX7_reads_14 : decode cX7_reads 14 = .ok (.invokevirtual 61, 3) := by decide +kernel
theorem dX7_reads_17 : decode cX7_reads 17 = .ok (.ireturn, 1) := by decide +kernel
theorem dX7_reads_18 : decode cX7_reads 18 = .ok (.aload_n 0, 1) := by decide +kernel
theorem dX7_reads_19 : decode cX7_reads 19 = .ok (.iload_n 1, 1) := by decide +kernel
theorem dX7_reads_20 : decode cX7_reads 20 = .ok (.iload_n 2, 1) := by decide +kernel
theorem dX7_reads_21 : decode cX7_reads 21 = .ok (.invokevirtual 74, 3) := by decide +kernel
theorem dX7_reads_24 : decode cX7_reads 24 = .ok (.ifCond .ne 21, 3) := by decide +kernel
theorem dX7_reads_27 : decode cX7_reads 27 = .ok (.aload_n 0, 1) := by decide +kernel
theorem dX7_reads_28 : decode cX7_reads 28 = .ok (.bipush 21, 2) := by decide +kernel
theorem dX7_reads_30 : decode cX7_reads 30 = .ok (.iload_n 1, 1) := by decide +kernel
theorem dX7_reads_31 : decode cX7_reads 31 = .ok (.imul, 1) := by decide +kernel
theorem dX7_reads_32 : decode cX7_reads 32 = .ok (.bipush 13, 2) := by decide +kernel
theorem dX7_reads_34 : decode cX7_reads 34 = .ok (.iadd, 1) := by decide +kernel
theorem dX7_reads_35 : decode cX7_reads 35 = .ok (.iload_n 2, 1) := by decide +kernel
theorem dX7_reads_36 : decode cX7_reads 36 = .ok (.iadd, 1) := by decide +kernel
theorem dX7_reads_37 : decode cX7_reads 37 = .ok (.aload_n 0, 1) := by decide +kernel
theorem dX7_reads_38 : decode cX7_reads 38 = .ok (.iload_n 2, 1) := by decide +kernel
theorem dX7_reads_39 : decode cX7_reads 39 = .ok (.invokevirtual 80, 3) := by decide +kernel
theorem dX7_reads_42 : decode cX7_reads 42 = .ok (.invokevirtual 115, 3) := by decide +kernel
theorem dX7_reads_45 : decode cX7_reads 45 = .ok (.aload_n 0, 1) := by decide +kernel
theorem dX7_reads_46 : decode cX7_reads 46 = .ok (.iload_n 2, 1) := by decide +kernel
theorem dX7_reads_47 : decode cX7_reads 47 = .ok (.aload_n 0, 1) := by decide +kernel
theorem dX7_reads_48 : decode cX7_reads 48 = .ok (.iload_n 1, 1) := by decide +kernel
theorem dX7_reads_49 : decode cX7_reads 49 = .ok (.bipush 13, 2) := by decide +kernel
theorem dX7_reads_51 : decode cX7_reads 51 = .ok (.iload_n 2, 1) := by decide +kernel
theorem dX7_reads_52 : decode cX7_reads 52 = .ok (.iadd, 1) := by decide +kernel
theorem dX7_reads_53 : decode cX7_reads 53 = .ok (.invokevirtual 61, 3) := by decide +kernel
theorem dX7_reads_56 : decode cX7_reads 56 = .ok (.invokevirtual 119, 3) := by decide +kernel
theorem dX7_reads_59 : decode cX7_reads 59 = .ok (.ireturn, 1) := by decide +kernel
set_option maxRecDepth 20000 in
theorem ggX7_writes_X7_lays : GoodIn wsX7_writes wsX7_lays := goodIn_r _ [5, 6, 19, 20, 21, 22, 23, 24, 25, 26] (by decide +kernel) (by decide +kernel)
set_option maxRecDepth 20000 in
theorem gX7_writes_X7_lays : GoodIn wsX7_writes (wsV RX7 115 RX7 yX7_lays wsX7_lays) := goodIn_app (goodIn_of _ (by decide +kernel)) ggX7_writes_X7_lays
set_option maxRecDepth 20000 in
theorem ggX7_writes_X7_written : GoodIn wsX7_writes wsX7_written := goodIn_r _ [10, 11, 12, 13, 4, 14, 15, 16, 17, 18, 6, 19, 20, 21, 22, 23, 24, 25, 26] (by decide +kernel) (by decide +kernel)
set_option maxRecDepth 20000 in
theorem gX7_writes_X7_written : GoodIn wsX7_writes (wsV RX7 122 RX7 yX7_written wsX7_written) := goodIn_app (goodIn_of _ (by decide +kernel)) ggX7_writes_X7_written
theorem dX7_writes_0 : decode cX7_writes 0 = .ok (.aload_n 0, 1) := by decide +kernel
theorem dX7_writes_1 : decode cX7_writes 1 = .ok (.bipush 21, 2) := by decide +kernel
theorem dX7_writes_3 : decode cX7_writes 3 = .ok (.iload_n 1, 1) := by decide +kernel
theorem dX7_writes_4 : decode cX7_writes 4 = .ok (.imul, 1) := by decide +kernel
theorem dX7_writes_5 : decode cX7_writes 5 = .ok (.iconst 5, 1) := by decide +kernel
theorem dX7_writes_6 : decode cX7_writes 6 = .ok (.iadd, 1) := by decide +kernel
theorem dX7_writes_7 : decode cX7_writes 7 = .ok (.iload_n 2, 1) := by decide +kernel
theorem dX7_writes_8 : decode cX7_writes 8 = .ok (.iadd, 1) := by decide +kernel
theorem dX7_writes_9 : decode cX7_writes 9 = .ok (.iload_n 3, 1) := by decide +kernel
theorem dX7_writes_10 : decode cX7_writes 10 = .ok (.invokevirtual 115, 3) := by decide +kernel
theorem dX7_writes_13 : decode cX7_writes 13 = .ok (.aload_n 0, 1) := by decide +kernel
theorem dX7_writes_14 : decode cX7_writes 14 = .ok (.iload_n 1, 1) := by decide +kernel
theorem dX7_writes_15 : decode cX7_writes 15 = .ok (.invokevirtual 122, 3) := by decide +kernel
theorem dX7_writes_18 : decode cX7_writes 18 = .ok (.ireturn, 1) := by decide +kernel
set_option maxRecDepth 20000 in
theorem ggX7_requests_X7_lays : GoodIn wsX7_requests wsX7_lays := goodIn_r _ [6, 1, 42, 43, 44, 45, 46, 47, 48, 49] (by decide +kernel) (by decide +kernel)
set_option maxRecDepth 20000 in
theorem gX7_requests_X7_lays : GoodIn wsX7_requests (wsV RX7 115 RX7 yX7_lays wsX7_lays) := goodIn_app (goodIn_of _ (by decide +kernel)) ggX7_requests_X7_lays
set_option maxRecDepth 20000 in
theorem ggX7_requests_X7_of : GoodIn wsX7_requests wsX7_of := goodIn_r _ [10, 1, 42, 43, 44, 45, 46, 47, 48, 49] (by decide +kernel) (by decide +kernel)
set_option maxRecDepth 20000 in
theorem gX7_requests_X7_of : GoodIn wsX7_requests (wsV RX7 61 RX7 yX7_of wsX7_of) := goodIn_app (goodIn_of _ (by decide +kernel)) ggX7_requests_X7_of
set_option maxRecDepth 20000 in
theorem ggX7_requests_X7_uses : GoodIn wsX7_requests wsX7_uses := goodIn_r _ [14, 1, 15, 16, 17, 5, 18, 19, 20, 21, 22, 23, 24, 25, 26, 27, 28, 29, 30, 31, 32, 33, 34, 35, 36, 37, 38, 39, 40, 41, 42, 43, 44, 45, 46, 47, 48, 49] (by decide +kernel) (by decide +kernel)
set_option maxRecDepth 20000 in
theorem gX7_requests_X7_uses : GoodIn wsX7_requests (wsV RX7 125 RX7 yX7_uses wsX7_uses) := goodIn_app (goodIn_of _ (by decide +kernel)) ggX7_requests_X7_uses
theorem dX7_requests_0 : decode cX7_requests 0 = .ok (.iload_n 2, 1) := by decide +kernel
theorem dX7_requests_1 : decode cX7_requests 1 = .ok (.bipush (-2), 2) := by decide +kernel
theorem dX7_requests_3 : decode cX7_requests 3 = .ok (.if_icmp .ne 15, 3) := by decide +kernel
theorem dX7_requests_6 : decode cX7_requests 6 = .ok (.aload_n 0, 1) := by decide +kernel
theorem dX7_requests_7 : decode cX7_requests 7 = .ok (.bipush 21, 2) := by decide +kernel
theorem dX7_requests_9 : decode cX7_requests 9 = .ok (.iload_n 1, 1) := by decide +kernel
theorem dX7_requests_10 : decode cX7_requests 10 = .ok (.imul, 1) := by decide +kernel
theorem dX7_requests_11 : decode cX7_requests 11 = .ok (.iconst 1, 1) := by decide +kernel
theorem dX7_requests_12 : decode cX7_requests 12 = .ok (.iadd, 1) := by decide +kernel
theorem dX7_requests_13 : decode cX7_requests 13 = .ok (.iconst 3, 1) := by decide +kernel
theorem dX7_requests_14 : decode cX7_requests 14 = .ok (.invokevirtual 115, 3) := by decide +kernel
theorem dX7_requests_17 : decode cX7_requests 17 = .ok (.return_, 1) := by decide +kernel
theorem dX7_requests_18 : decode cX7_requests 18 = .ok (.aload_n 0, 1) := by decide +kernel
theorem dX7_requests_19 : decode cX7_requests 19 = .ok (.bipush 21, 2) := by decide +kernel
theorem dX7_requests_21 : decode cX7_requests 21 = .ok (.iload_n 1, 1) := by decide +kernel
theorem dX7_requests_22 : decode cX7_requests 22 = .ok (.imul, 1) := by decide +kernel
theorem dX7_requests_23 : decode cX7_requests 23 = .ok (.iconst 1, 1) := by decide +kernel
theorem dX7_requests_24 : decode cX7_requests 24 = .ok (.iadd, 1) := by decide +kernel
theorem dX7_requests_25 : decode cX7_requests 25 = .ok (.iconst 1, 1) := by decide +kernel
theorem dX7_requests_26 : decode cX7_requests 26 = .ok (.invokevirtual 115, 3) := by decide +kernel
theorem dX7_requests_29 : decode cX7_requests 29 = .ok (.aload_n 0, 1) := by decide +kernel
theorem dX7_requests_30 : decode cX7_requests 30 = .ok (.bipush 21, 2) := by decide +kernel
theorem dX7_requests_32 : decode cX7_requests 32 = .ok (.iload_n 1, 1) := by decide +kernel
theorem dX7_requests_33 : decode cX7_requests 33 = .ok (.imul, 1) := by decide +kernel
theorem dX7_requests_34 : decode cX7_requests 34 = .ok (.iconst 2, 1) := by decide +kernel
theorem dX7_requests_35 : decode cX7_requests 35 = .ok (.iadd, 1) := by decide +kernel
theorem dX7_requests_36 : decode cX7_requests 36 = .ok (.iload_n 2, 1) := by decide +kernel
theorem dX7_requests_37 : decode cX7_requests 37 = .ok (.invokevirtual 115, 3) := by decide +kernel
theorem dX7_requests_40 : decode cX7_requests 40 = .ok (.aload_n 0, 1) := by decide +kernel
theorem dX7_requests_41 : decode cX7_requests 41 = .ok (.bipush 21, 2) := by decide +kernel
theorem dX7_requests_43 : decode cX7_requests 43 = .ok (.iload_n 1, 1) := by decide +kernel
theorem dX7_requests_44 : decode cX7_requests 44 = .ok (.imul, 1) := by decide +kernel
theorem dX7_requests_45 : decode cX7_requests 45 = .ok (.iconst 3, 1) := by decide +kernel
theorem dX7_requests_46 : decode cX7_requests 46 = .ok (.iadd, 1) := by decide +kernel
theorem dX7_requests_47 : decode cX7_requests 47 = .ok (.aload_n 0, 1) := by decide +kernel
theorem dX7_requests_48 : decode cX7_requests 48 = .ok (.getfield 7, 3) := by decide +kernel
theorem dX7_requests_51 : decode cX7_requests 51 = .ok (.iconst 0, 1) := by decide +kernel
theorem dX7_requests_52 : decode cX7_requests 52 = .ok (.iaload, 1) := by decide +kernel
theorem dX7_requests_53 : decode cX7_requests 53 = .ok (.invokevirtual 115, 3) := by decide +kernel
theorem dX7_requests_56 : decode cX7_requests 56 = .ok (.aload_n 0, 1) := by decide +kernel
theorem dX7_requests_57 : decode cX7_requests 57 = .ok (.getfield 7, 3) := by decide +kernel
theorem dX7_requests_60 : decode cX7_requests 60 = .ok (.iconst 4, 1) := by decide +kernel
theorem dX7_requests_61 : decode cX7_requests 61 = .ok (.aload_n 0, 1) := by decide +kernel
theorem dX7_requests_62 : decode cX7_requests 62 = .ok (.iload_n 1, 1) := by decide +kernel
theorem dX7_requests_63 : decode cX7_requests 63 = .ok (.iconst 0, 1) := by decide +kernel
theorem dX7_requests_64 : decode cX7_requests 64 = .ok (.invokevirtual 61, 3) := by decide +kernel
theorem dX7_requests_67 : decode cX7_requests 67 = .ok (.iadd, 1) := by decide +kernel
theorem dX7_requests_68 : decode cX7_requests 68 = .ok (.iload_n 2, 1) := by decide +kernel
theorem dX7_requests_69 : decode cX7_requests 69 = .ok (.iastore, 1) := by decide +kernel
theorem dX7_requests_70 : decode cX7_requests 70 = .ok (.aload_n 0, 1) := by decide +kernel
theorem dX7_requests_71 : decode cX7_requests 71 = .ok (.aload_n 0, 1) := by decide +kernel
theorem dX7_requests_72 : decode cX7_requests 72 = .ok (.iload_n 1, 1) := by decide +kernel
theorem dX7_requests_73 : decode cX7_requests 73 = .ok (.iconst 0, 1) := by decide +kernel
theorem dX7_requests_74 : decode cX7_requests 74 = .ok (.invokevirtual 61, 3) := by decide +kernel
theorem dX7_requests_77 : decode cX7_requests 77 = .ok (.invokevirtual 125, 3) := by decide +kernel
theorem dX7_requests_80 : decode cX7_requests 80 = .ok (.return_, 1) := by decide +kernel
set_option maxRecDepth 20000 in
theorem ggX7_advances_X7_of : GoodIn wsX7_advances wsX7_of := goodIn_r _ [6, 1, 42, 43, 44, 45, 46, 47, 48, 49] (by decide +kernel) (by decide +kernel)
set_option maxRecDepth 20000 in
theorem gX7_advances_X7_of : GoodIn wsX7_advances (wsV RX7 61 RX7 yX7_of wsX7_of) := goodIn_app (goodIn_of _ (by decide +kernel)) ggX7_advances_X7_of
set_option maxRecDepth 20000 in
theorem ggX7_advances_X7_earliestAt : GoodIn wsX7_advances wsX7_earliestAt := goodIn_r _ [10, 11, 12, 13, 5, 14, 15, 16, 17, 18, 1, 19, 20, 21, 22, 23, 24, 25, 42, 43, 44, 45, 46, 47, 48, 49] (by decide +kernel) (by decide +kernel)
set_option maxRecDepth 20000 in
theorem gX7_advances_X7_earliestAt : GoodIn wsX7_advances (wsV RX7 51 RX7 yX7_earliestAt wsX7_earliestAt) := goodIn_app (goodIn_of _ (by decide +kernel)) ggX7_advances_X7_earliestAt
set_option maxRecDepth 20000 in
theorem ggX7_advances_X7_lays : GoodIn wsX7_advances wsX7_lays := goodIn_r _ [29, 1, 42, 43, 44, 45, 46, 47, 48, 49] (by decide +kernel) (by decide +kernel)
set_option maxRecDepth 20000 in
theorem gX7_advances_X7_lays : GoodIn wsX7_advances (wsV RX7 115 RX7 yX7_lays wsX7_lays) := goodIn_app (goodIn_of _ (by decide +kernel)) ggX7_advances_X7_lays
set_option maxRecDepth 20000 in
theorem ggX7_advances_X7_uses : GoodIn wsX7_advances wsX7_uses := goodIn_r _ [33, 1, 34, 35, 36, 5, 37, 7, 8, 9, 10, 11, 12, 13, 14, 15, 16, 17, 18, 19, 20, 21, 22, 23, 24, 25, 38, 39, 40, 41, 42, 43, 44, 45, 46, 47, 48, 49] (by decide +kernel) (by decide +kernel)
set_option maxRecDepth 20000 in
theorem gX7_advances_X7_uses : GoodIn wsX7_advances (wsV RX7 125 RX7 yX7_uses wsX7_uses) := goodIn_app (goodIn_of _ (by decide +kernel)) ggX7_advances_X7_uses
theorem dX7_advances_0 : decode cX7_advances 0 = .ok (.iconst 0, 1) := by decide +kernel
theorem dX7_advances_1 : decode cX7_advances 1 = .ok (.istore_n 2, 1) := by decide +kernel
theorem dX7_advances_2 : decode cX7_advances 2 = .ok (.iconst 0, 1) := by decide +kernel
theorem dX7_advances_3 : decode cX7_advances 3 = .ok (.istore_n 3, 1) := by decide +kernel
theorem dX7_advances_4 : decode cX7_advances 4 = .ok (.iload_n 3, 1) := by decide +kernel
theorem dX7_advances_5 : decode cX7_advances 5 = .ok (.iload_n 1, 1) := by decide +kernel
theorem dX7_advances_6 : decode cX7_advances 6 = .ok (.if_icmp .ge 120, 3) := by decide +kernel
theorem dX7_advances_9 : decode cX7_advances 9 = .ok (.aload_n 0, 1) := by decide +kernel
theorem dX7_advances_10 : decode cX7_advances 10 = .ok (.getfield 7, 3) := by decide +kernel
theorem dX7_advances_13 : decode cX7_advances 13 = .ok (.iconst 0, 1) := by decide +kernel
theorem dX7_advances_14 : decode cX7_advances 14 = .ok (.dup2, 1) := by decide +kernel
theorem dX7_advances_15 : decode cX7_advances 15 = .ok (.iaload, 1) := by decide +kernel
theorem dX7_advances_16 : decode cX7_advances 16 = .ok (.iconst 1, 1) := by decide +kernel
theorem dX7_advances_17 : decode cX7_advances 17 = .ok (.iadd, 1) := by decide +kernel
theorem dX7_advances_18 : decode cX7_advances 18 = .ok (.iastore, 1) := by decide +kernel
theorem dX7_advances_19 : decode cX7_advances 19 = .ok (.iconst 0, 1) := by decide +kernel
theorem dX7_advances_20 : decode cX7_advances 20 = .ok (.istore 4, 2) := by decide +kernel
theorem dX7_advances_22 : decode cX7_advances 22 = .ok (.iload 4, 2) := by decide +kernel
theorem dX7_advances_24 : decode cX7_advances 24 = .ok (.aload_n 0, 1) := by decide +kernel
theorem dX7_advances_25 : decode cX7_advances 25 = .ok (.getfield 7, 3) := by decide +kernel
theorem dX7_advances_28 : decode cX7_advances 28 = .ok (.iconst 3, 1) := by decide +kernel
theorem dX7_advances_29 : decode cX7_advances 29 = .ok (.iaload, 1) := by decide +kernel
theorem dX7_advances_30 : decode cX7_advances 30 = .ok (.if_icmp .ge 90, 3) := by decide +kernel
theorem dX7_advances_33 : decode cX7_advances 33 = .ok (.aload_n 0, 1) := by decide +kernel
theorem dX7_advances_34 : decode cX7_advances 34 = .ok (.iload 4, 2) := by decide +kernel
theorem dX7_advances_36 : decode cX7_advances 36 = .ok (.iconst 1, 1) := by decide +kernel
theorem dX7_advances_37 : decode cX7_advances 37 = .ok (.invokevirtual 61, 3) := by decide +kernel
theorem dX7_advances_40 : decode cX7_advances 40 = .ok (.iconst 1, 1) := by decide +kernel
theorem dX7_advances_41 : decode cX7_advances 41 = .ok (.if_icmp .ne 73, 3) := by decide +kernel
theorem dX7_advances_44 : decode cX7_advances 44 = .ok (.aload_n 0, 1) := by decide +kernel
theorem dX7_advances_45 : decode cX7_advances 45 = .ok (.iload 4, 2) := by decide +kernel
theorem dX7_advances_47 : decode cX7_advances 47 = .ok (.iconst 2, 1) := by decide +kernel
theorem dX7_advances_48 : decode cX7_advances 48 = .ok (.invokevirtual 61, 3) := by decide +kernel
theorem dX7_advances_51 : decode cX7_advances 51 = .ok (.aload_n 0, 1) := by decide +kernel
theorem dX7_advances_52 : decode cX7_advances 52 = .ok (.aload_n 0, 1) := by decide +kernel
theorem dX7_advances_53 : decode cX7_advances 53 = .ok (.iload 4, 2) := by decide +kernel
theorem dX7_advances_55 : decode cX7_advances 55 = .ok (.iconst 0, 1) := by decide +kernel
theorem dX7_advances_56 : decode cX7_advances 56 = .ok (.invokevirtual 61, 3) := by decide +kernel
theorem dX7_advances_59 : decode cX7_advances 59 = .ok (.aload_n 0, 1) := by decide +kernel
theorem dX7_advances_60 : decode cX7_advances 60 = .ok (.getfield 7, 3) := by decide +kernel
theorem dX7_advances_63 : decode cX7_advances 63 = .ok (.iconst 0, 1) := by decide +kernel
theorem dX7_advances_64 : decode cX7_advances 64 = .ok (.iaload, 1) := by decide +kernel
theorem dX7_advances_65 : decode cX7_advances 65 = .ok (.invokevirtual 51, 3) := by decide +kernel
theorem dX7_advances_68 : decode cX7_advances 68 = .ok (.if_icmp .ge 46, 3) := by decide +kernel
theorem dX7_advances_71 : decode cX7_advances 71 = .ok (.aload_n 0, 1) := by decide +kernel
theorem dX7_advances_72 : decode cX7_advances 72 = .ok (.bipush 21, 2) := by decide +kernel
theorem dX7_advances_74 : decode cX7_advances 74 = .ok (.iload 4, 2) := by decide +kernel
theorem dX7_advances_76 : decode cX7_advances 76 = .ok (.imul, 1) := by decide +kernel
theorem dX7_advances_77 : decode cX7_advances 77 = .ok (.iconst 1, 1) := by decide +kernel
theorem dX7_advances_78 : decode cX7_advances 78 = .ok (.iadd, 1) := by decide +kernel
theorem dX7_advances_79 : decode cX7_advances 79 = .ok (.iconst 2, 1) := by decide +kernel
theorem dX7_advances_80 : decode cX7_advances 80 = .ok (.invokevirtual 115, 3) := by decide +kernel
theorem dX7_advances_83 : decode cX7_advances 83 = .ok (.aload_n 0, 1) := by decide +kernel
theorem dX7_advances_84 : decode cX7_advances 84 = .ok (.bipush 21, 2) := by decide +kernel
theorem dX7_advances_86 : decode cX7_advances 86 = .ok (.iload 4, 2) := by decide +kernel
theorem dX7_advances_88 : decode cX7_advances 88 = .ok (.imul, 1) := by decide +kernel
theorem dX7_advances_89 : decode cX7_advances 89 = .ok (.iconst 4, 1) := by decide +kernel
theorem dX7_advances_90 : decode cX7_advances 90 = .ok (.iadd, 1) := by decide +kernel
theorem dX7_advances_91 : decode cX7_advances 91 = .ok (.aload_n 0, 1) := by decide +kernel
theorem dX7_advances_92 : decode cX7_advances 92 = .ok (.getfield 7, 3) := by decide +kernel
theorem dX7_advances_95 : decode cX7_advances 95 = .ok (.iconst 0, 1) := by decide +kernel
theorem dX7_advances_96 : decode cX7_advances 96 = .ok (.iaload, 1) := by decide +kernel
theorem dX7_advances_97 : decode cX7_advances 97 = .ok (.invokevirtual 115, 3) := by decide +kernel
theorem dX7_advances_100 : decode cX7_advances 100 = .ok (.aload_n 0, 1) := by decide +kernel
theorem dX7_advances_101 : decode cX7_advances 101 = .ok (.aload_n 0, 1) := by decide +kernel
theorem dX7_advances_102 : decode cX7_advances 102 = .ok (.iload 4, 2) := by decide +kernel
theorem dX7_advances_104 : decode cX7_advances 104 = .ok (.iconst 0, 1) := by decide +kernel
theorem dX7_advances_105 : decode cX7_advances 105 = .ok (.invokevirtual 61, 3) := by decide +kernel
theorem dX7_advances_108 : decode cX7_advances 108 = .ok (.invokevirtual 125, 3) := by decide +kernel
theorem dX7_advances_111 : decode cX7_advances 111 = .ok (.iinc 2 1, 3) := by decide +kernel
theorem dX7_advances_114 : decode cX7_advances 114 = .ok (.iinc 4 1, 3) := by decide +kernel
theorem dX7_advances_117 : decode cX7_advances 117 = .ok (.goto (-95), 3) := by decide +kernel
theorem dX7_advances_120 : decode cX7_advances 120 = .ok (.iinc 3 1, 3) := by decide +kernel
theorem dX7_advances_123 : decode cX7_advances 123 = .ok (.goto (-119), 3) := by decide +kernel
theorem dX7_advances_126 : decode cX7_advances 126 = .ok (.iload_n 2, 1) := by decide +kernel
theorem dX7_advances_127 : decode cX7_advances 127 = .ok (.ireturn, 1) := by decide +kernel
set_option maxRecDepth 20000 in
theorem ggX7_synchronizes_X7_offset : GoodIn wsX7_synchronizes wsX7_offset := goodIn_r _ [6, 7, 8, 9, 5, 10, 1, 11, 12, 13, 18, 19, 20, 21, 22, 23, 24, 25] (by decide +kernel) (by decide +kernel)
set_option maxRecDepth 20000 in
theorem gX7_synchronizes_X7_offset : GoodIn wsX7_synchronizes (wsV RX7 45 RX7 yX7_offset wsX7_offset) := goodIn_app (goodIn_of _ (by decide +kernel)) ggX7_synchronizes_X7_offset
set_option maxRecDepth 20000 in
theorem ggX7_synchronizes_X7_sets : GoodIn wsX7_synchronizes wsX7_sets := goodIn_r _ [17, 1, 18, 19, 20, 21, 22, 23, 24, 25] (by decide +kernel) (by decide +kernel)
set_option maxRecDepth 20000 in
theorem gX7_synchronizes_X7_sets : GoodIn wsX7_synchronizes (wsV RX7 129 RX7 yX7_sets wsX7_sets) := goodIn_app (goodIn_of _ (by decide +kernel)) ggX7_synchronizes_X7_sets
theorem dX7_synchronizes_0 : decode cX7_synchronizes 0 = .ok (.aload_n 0, 1) := by decide +kernel
theorem dX7_synchronizes_1 : decode cX7_synchronizes 1 = .ok (.iload_n 1, 1) := by decide +kernel
theorem dX7_synchronizes_2 : decode cX7_synchronizes 2 = .ok (.aload_n 0, 1) := by decide +kernel
theorem dX7_synchronizes_3 : decode cX7_synchronizes 3 = .ok (.getfield 7, 3) := by decide +kernel
theorem dX7_synchronizes_6 : decode cX7_synchronizes 6 = .ok (.iconst 0, 1) := by decide +kernel
theorem dX7_synchronizes_7 : decode cX7_synchronizes 7 = .ok (.iaload, 1) := by decide +kernel
theorem dX7_synchronizes_8 : decode cX7_synchronizes 8 = .ok (.invokevirtual 45, 3) := by decide +kernel
theorem dX7_synchronizes_11 : decode cX7_synchronizes 11 = .ok (.istore_n 3, 1) := by decide +kernel
theorem dX7_synchronizes_12 : decode cX7_synchronizes 12 = .ok (.aload_n 0, 1) := by decide +kernel
theorem dX7_synchronizes_13 : decode cX7_synchronizes 13 = .ok (.iload_n 1, 1) := by decide +kernel
theorem dX7_synchronizes_14 : decode cX7_synchronizes 14 = .ok (.iconst 0, 1) := by decide +kernel
theorem dX7_synchronizes_15 : decode cX7_synchronizes 15 = .ok (.iload_n 2, 1) := by decide +kernel
theorem dX7_synchronizes_16 : decode cX7_synchronizes 16 = .ok (.invokevirtual 129, 3) := by decide +kernel
theorem dX7_synchronizes_19 : decode cX7_synchronizes 19 = .ok (.aload_n 0, 1) := by decide +kernel
theorem dX7_synchronizes_20 : decode cX7_synchronizes 20 = .ok (.iload_n 1, 1) := by decide +kernel
theorem dX7_synchronizes_21 : decode cX7_synchronizes 21 = .ok (.iconst 1, 1) := by decide +kernel
theorem dX7_synchronizes_22 : decode cX7_synchronizes 22 = .ok (.aload_n 0, 1) := by decide +kernel
