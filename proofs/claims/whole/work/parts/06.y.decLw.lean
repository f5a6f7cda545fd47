theorem dL_begin_0 : decode cL_begin 0 = .ok (.aload_n 2, 1) := by decide +kernel
theorem dL_begin_1 : decode cL_begin 1 = .ok (.iconst 0, 1) := by decide +kernel
theorem dL_begin_2 : decode cL_begin 2 = .ok (.aload_n 0, 1) := by decide +kernel
theorem dL_begin_3 : decode cL_begin 3 = .ok (.iload_n 1, 1) := by decide +kernel
theorem dL_begin_4 : decode cL_begin 4 = .ok (.invokevirtual 7, 3) := by decide +kernel
theorem dL_begin_7 : decode cL_begin 7 = .ok (.i2l, 1) := by decide +kernel
theorem dL_begin_8 : decode cL_begin 8 = .ok (.lastore, 1) := by decide +kernel
theorem dL_begin_9 : decode cL_begin 9 = .ok (.goto 9, 3) := by decide +kernel
theorem dL_begin_12 : decode cL_begin 12 = .ok (.astore_n 3, 1) := by decide +kernel
theorem dL_begin_13 : decode cL_begin 13 = .ok (.iconst 1, 1) := by decide +kernel
theorem dL_begin_14 : decode cL_begin 14 = .ok (.ireturn, 1) := by decide +kernel
theorem dL_begin_15 : decode cL_begin 15 = .ok (.astore_n 3, 1) := by decide +kernel
theorem dL_begin_16 : decode cL_begin 16 = .ok (.iconst 2, 1) := by decide +kernel
theorem dL_begin_17 : decode cL_begin 17 = .ok (.ireturn, 1) := by decide +kernel
theorem dL_begin_18 : decode cL_begin 18 = .ok (.iconst 0, 1) := by decide +kernel
theorem dL_begin_19 : decode cL_begin 19 = .ok (.ireturn, 1) := by decide +kernel
theorem dL_read_0 : decode cL_read 0 = .ok (.aload_n 3, 1) := by decide +kernel
theorem dL_read_1 : decode cL_read 1 = .ok (.iconst 0, 1) := by decide +kernel
theorem dL_read_2 : decode cL_read 2 = .ok (.aload_n 0, 1) := by decide +kernel
theorem dL_read_3 : decode cL_read 3 = .ok (.iload_n 1, 1) := by decide +kernel
theorem dL_read_4 : decode cL_read 4 = .ok (.iload_n 2, 1) := by decide +kernel
theorem dL_read_5 : decode cL_read 5 = .ok (.invokevirtual 17, 3) := by decide +kernel
theorem dL_read_8 : decode cL_read 8 = .ok (.i2l, 1) := by decide +kernel
theorem dL_read_9 : decode cL_read 9 = .ok (.lastore, 1) := by decide +kernel
theorem dL_read_10 : decode cL_read 10 = .ok (.goto 11, 3) := by decide +kernel
theorem dL_read_13 : decode cL_read 13 = .ok (.astore 4, 2) := by decide +kernel
theorem dL_read_15 : decode cL_read 15 = .ok (.iconst 1, 1) := by decide +kernel
theorem dL_read_16 : decode cL_read 16 = .ok (.ireturn, 1) := by decide +kernel
theorem dL_read_17 : decode cL_read 17 = .ok (.astore 4, 2) := by decide +kernel
theorem dL_read_19 : decode cL_read 19 = .ok (.iconst 2, 1) := by decide +kernel
theorem dL_read_20 : decode cL_read 20 = .ok (.ireturn, 1) := by decide +kernel
theorem dL_read_21 : decode cL_read 21 = .ok (.iconst 0, 1) := by decide +kernel
theorem dL_read_22 : decode cL_read 22 = .ok (.ireturn, 1) := by decide +kernel
theorem dL_write_0 : decode cL_write 0 = .ok (.aload 4, 2) := by decide +kernel
theorem dL_write_2 : decode cL_write 2 = .ok (.iconst 0, 1) := by decide +kernel
theorem dL_write_3 : decode cL_write 3 = .ok (.aload_n 0, 1) := by decide +kernel
theorem dL_write_4 : decode cL_write 4 = .ok (.iload_n 1, 1) := by decide +kernel
theorem dL_write_5 : decode cL_write 5 = .ok (.iload_n 2, 1) := by decide +kernel
theorem dL_write_6 : decode cL_write 6 = .ok (.iload_n 3, 1) := by decide +kernel
theorem dL_write_7 : decode cL_write 7 = .ok (.invokevirtual 21, 3) := by decide +kernel
theorem dL_write_10 : decode cL_write 10 = .ok (.i2l, 1) := by decide +kernel
theorem dL_write_11 : decode cL_write 11 = .ok (.lastore, 1) := by decide +kernel
theorem dL_write_12 : decode cL_write 12 = .ok (.goto 15, 3) := by decide +kernel
theorem dL_write_15 : decode cL_write 15 = .ok (.astore 5, 2) := by decide +kernel
theorem dL_write_17 : decode cL_write 17 = .ok (.iconst 1, 1) := by decide +kernel
theorem dL_write_18 : decode cL_write 18 = .ok (.ireturn, 1) := by decide +kernel
theorem dL_write_19 : decode cL_write 19 = .ok (.astore 5, 2) := by decide +kernel
theorem dL_write_21 : decode cL_write 21 = .ok (.iconst 2, 1) := by decide +kernel
theorem dL_write_22 : decode cL_write 22 = .ok (.ireturn, 1) := by decide +kernel
theorem dL_write_23 : decode cL_write 23 = .ok (.astore 5, 2) := by decide +kernel
theorem dL_write_25 : decode cL_write 25 = .ok (.iconst 3, 1) := by decide +kernel
theorem dL_write_26 : decode cL_write 26 = .ok (.ireturn, 1) := by decide +kernel
theorem dL_write_27 : decode cL_write 27 = .ok (.iconst 0, 1) := by decide +kernel
theorem dL_write_28 : decode cL_write 28 = .ok (.ireturn, 1) := by decide +kernel
theorem dL_commit_0 : decode cL_commit 0 = .ok (.aload_n 2, 1) := by decide +kernel
theorem dL_commit_1 : decode cL_commit 1 = .ok (.iconst 0, 1) := by decide +kernel
theorem dL_commit_2 : decode cL_commit 2 = .ok (.aload_n 0, 1) := by decide +kernel
theorem dL_commit_3 : decode cL_commit 3 = .ok (.iload_n 1, 1) := by decide +kernel
theorem dL_commit_4 : decode cL_commit 4 = .ok (.invokevirtual 27, 3) := by decide +kernel
theorem dL_commit_7 : decode cL_commit 7 = .ok (.i2l, 1) := by decide +kernel
theorem dL_commit_8 : decode cL_commit 8 = .ok (.lastore, 1) := by decide +kernel
theorem dL_commit_9 : decode cL_commit 9 = .ok (.goto 9, 3) := by decide +kernel
theorem dL_commit_12 : decode cL_commit 12 = .ok (.astore_n 3, 1) := by decide +kernel
theorem dL_commit_13 : decode cL_commit 13 = .ok (.iconst 1, 1) := by decide +kernel
theorem dL_commit_14 : decode cL_commit 14 = .ok (.ireturn, 1) := by decide +kernel
theorem dL_commit_15 : decode cL_commit 15 = .ok (.astore_n 3, 1) := by decide +kernel
theorem dL_commit_16 : decode cL_commit 16 = .ok (.iconst 2, 1) := by decide +kernel
theorem dL_commit_17 : decode cL_commit 17 = .ok (.ireturn, 1) := by decide +kernel
theorem dL_commit_18 : decode cL_commit 18 = .ok (.iconst 0, 1) := by decide +kernel
theorem dL_commit_19 : decode cL_commit 19 = .ok (.ireturn, 1) := by decide +kernel
theorem dL_abort_0 : decode cL_abort 0 = .ok (.aload_n 2, 1) := by decide +kernel
theorem dL_abort_1 : decode cL_abort 1 = .ok (.iconst 0, 1) := by decide +kernel
theorem dL_abort_2 : decode cL_abort 2 = .ok (.aload_n 0, 1) := by decide +kernel
theorem dL_abort_3 : decode cL_abort 3 = .ok (.iload_n 1, 1) := by decide +kernel
theorem dL_abort_4 : decode cL_abort 4 = .ok (.invokevirtual 30, 3) := by decide +kernel
theorem dL_abort_7 : decode cL_abort 7 = .ok (.i2l, 1) := by decide +kernel
theorem dL_abort_8 : decode cL_abort 8 = .ok (.lastore, 1) := by decide +kernel
theorem dL_abort_9 : decode cL_abort 9 = .ok (.goto 9, 3) := by decide +kernel
theorem dL_abort_12 : decode cL_abort 12 = .ok (.astore_n 3, 1) := by decide +kernel
theorem dL_abort_13 : decode cL_abort 13 = .ok (.iconst 1, 1) := by decide +kernel
theorem dL_abort_14 : decode cL_abort 14 = .ok (.ireturn, 1) := by decide +kernel
theorem dL_abort_15 : decode cL_abort 15 = .ok (.astore_n 3, 1) := by decide +kernel
theorem dL_abort_16 : decode cL_abort 16 = .ok (.iconst 2, 1) := by decide +kernel
theorem dL_abort_17 : decode cL_abort 17 = .ok (.ireturn, 1) := by decide +kernel
theorem dL_abort_18 : decode cL_abort 18 = .ok (.iconst 0, 1) := by decide +kernel
theorem dL_abort_19 : decode cL_abort 19 = .ok (.ireturn, 1) := by decide +kernel
theorem dL_advance_0 : decode cL_advance 0 = .ok (.aload_n 2, 1) := by decide +kernel
theorem dL_advance_1 : decode cL_advance 1 = .ok (.iconst 0, 1) := by decide +kernel
theorem dL_advance_2 : decode cL_advance 2 = .ok (.aload_n 0, 1) := by decide +kernel
theorem dL_advance_3 : decode cL_advance 3 = .ok (.iload_n 1, 1) := by decide +kernel
theorem dL_advance_4 : decode cL_advance 4 = .ok (.invokevirtual 33, 3) := by decide +kernel
theorem dL_advance_7 : decode cL_advance 7 = .ok (.i2l, 1) := by decide +kernel
theorem dL_advance_8 : decode cL_advance 8 = .ok (.lastore, 1) := by decide +kernel
theorem dL_advance_9 : decode cL_advance 9 = .ok (.goto 9, 3) := by decide +kernel
theorem dL_advance_12 : decode cL_advance 12 = .ok (.astore_n 3, 1) := by decide +kernel
theorem dL_advance_13 : decode cL_advance 13 = .ok (.iconst 1, 1) := by decide +kernel
theorem dL_advance_14 : decode cL_advance 14 = .ok (.ireturn, 1) := by decide +kernel
theorem dL_advance_15 : decode cL_advance 15 = .ok (.astore_n 3, 1) := by decide +kernel
theorem dL_advance_16 : decode cL_advance 16 = .ok (.iconst 2, 1) := by decide +kernel
theorem dL_advance_17 : decode cL_advance 17 = .ok (.ireturn, 1) := by decide +kernel
theorem dL_advance_18 : decode cL_advance 18 = .ok (.iconst 0, 1) := by decide +kernel
theorem dL_advance_19 : decode cL_advance 19 = .ok (.ireturn, 1) := by decide +kernel
theorem dL_synchronize_0 : decode cL_synchronize 0 = .ok (.aload_n 3, 1) := by decide +kernel
theorem dL_synchronize_1 : decode cL_synchronize 1 = .ok (.iconst 0, 1) := by decide +kernel
theorem dL_synchronize_2 : decode cL_synchronize 2 = .ok (.aload_n 0, 1) := by decide +kernel
theorem dL_synchronize_3 : decode cL_synchronize 3 = .ok (.iload_n 1, 1) := by decide +kernel
theorem dL_synchronize_4 : decode cL_synchronize 4 = .ok (.iload_n 2, 1) := by decide +kernel
theorem dL_synchronize_5 : decode cL_synchronize 5 = .ok (.invokevirtual 36, 3) := by decide +kernel
theorem dL_synchronize_8 : decode cL_synchronize 8 = .ok (.i2l, 1) := by decide +kernel
theorem dL_synchronize_9 : decode cL_synchronize 9 = .ok (.lastore, 1) := by decide +kernel
theorem dL_synchronize_10 : decode cL_synchronize 10 = .ok (.goto 11, 3) := by decide +kernel
theorem dL_synchronize_13 : decode cL_synchronize 13 = .ok (.astore 4, 2) := by decide +kernel
theorem dL_synchronize_15 : decode cL_synchronize 15 = .ok (.iconst 1, 1) := by decide +kernel
theorem dL_synchronize_16 : decode cL_synchronize 16 = .ok (.ireturn, 1) := by decide +kernel
theorem dL_synchronize_17 : decode cL_synchronize 17 = .ok (.astore 4, 2) := by decide +kernel
theorem dL_synchronize_19 : decode cL_synchronize 19 = .ok (.iconst 2, 1) := by decide +kernel
theorem dL_synchronize_20 : decode cL_synchronize 20 = .ok (.ireturn, 1) := by decide +kernel
theorem dL_synchronize_21 : decode cL_synchronize 21 = .ok (.iconst 0, 1) := by decide +kernel
theorem dL_synchronize_22 : decode cL_synchronize 22 = .ok (.ireturn, 1) := by decide +kernel
theorem dL_setDrift_0 : decode cL_setDrift 0 = .ok (.aload_n 3, 1) := by decide +kernel
theorem dL_setDrift_1 : decode cL_setDrift 1 = .ok (.iconst 0, 1) := by decide +kernel
theorem dL_setDrift_2 : decode cL_setDrift 2 = .ok (.aload_n 0, 1) := by decide +kernel
theorem dL_setDrift_3 : decode cL_setDrift 3 = .ok (.iload_n 1, 1) := by decide +kernel
theorem dL_setDrift_4 : decode cL_setDrift 4 = .ok (.iload_n 2, 1) := by decide +kernel
theorem dL_setDrift_5 : decode cL_setDrift 5 = .ok (.invokevirtual 39, 3) := by decide +kernel
theorem dL_setDrift_8 : decode cL_setDrift 8 = .ok (.i2l, 1) := by decide +kernel
theorem dL_setDrift_9 : decode cL_setDrift 9 = .ok (.lastore, 1) := by decide +kernel
theorem dL_setDrift_10 : decode cL_setDrift 10 = .ok (.goto 11, 3) := by decide +kernel
theorem dL_setDrift_13 : decode cL_setDrift 13 = .ok (.astore 4, 2) := by decide +kernel
theorem dL_setDrift_15 : decode cL_setDrift 15 = .ok (.iconst 1, 1) := by decide +kernel
theorem dL_setDrift_16 : decode cL_setDrift 16 = .ok (.ireturn, 1) := by decide +kernel
theorem dL_setDrift_17 : decode cL_setDrift 17 = .ok (.astore 4, 2) := by decide +kernel
theorem dL_setDrift_19 : decode cL_setDrift 19 = .ok (.iconst 2, 1) := by decide +kernel
theorem dL_setDrift_20 : decode cL_setDrift 20 = .ok (.ireturn, 1) := by decide +kernel
theorem dL_setDrift_21 : decode cL_setDrift 21 = .ok (.iconst 0, 1) := by decide +kernel
theorem dL_setDrift_22 : decode cL_setDrift 22 = .ok (.ireturn, 1) := by decide +kernel
theorem dL_setUncertainty_0 : decode cL_setUncertainty 0 = .ok (.aload 4, 2) := by decide +kernel
theorem dL_setUncertainty_2 : decode cL_setUncertainty 2 = .ok (.iconst 0, 1) := by decide +kernel
theorem dL_setUncertainty_3 : decode cL_setUncertainty 3 = .ok (.aload_n 0, 1) := by decide +kernel
theorem dL_setUncertainty_4 : decode cL_setUncertainty 4 = .ok (.iload_n 1, 1) := by decide +kernel
theorem dL_setUncertainty_5 : decode cL_setUncertainty 5 = .ok (.iload_n 2, 1) := by decide +kernel
theorem dL_setUncertainty_6 : decode cL_setUncertainty 6 = .ok (.iload_n 3, 1) := by decide +kernel
theorem dL_setUncertainty_7 : decode cL_setUncertainty 7 = .ok (.invokevirtual 42, 3) := by decide +kernel
theorem dL_setUncertainty_10 : decode cL_setUncertainty 10 = .ok (.i2l, 1) := by decide +kernel
theorem dL_setUncertainty_11 : decode cL_setUncertainty 11 = .ok (.lastore, 1) := by decide +kernel
theorem dL_setUncertainty_12 : decode cL_setUncertainty 12 = .ok (.goto 11, 3) := by decide +kernel
theorem dL_setUncertainty_15 : decode cL_setUncertainty 15 = .ok (.astore 5, 2) := by decide +kernel
theorem dL_setUncertainty_17 : decode cL_setUncertainty 17 = .ok (.iconst 1, 1) := by decide +kernel
theorem dL_setUncertainty_18 : decode cL_setUncertainty 18 = .ok (.ireturn, 1) := by decide +kernel
theorem dL_setUncertainty_19 : decode cL_setUncertainty 19 = .ok (.astore 5, 2) := by decide +kernel
theorem dL_setUncertainty_21 : decode cL_setUncertainty 21 = .ok (.iconst 2, 1) := by decide +kernel
theorem dL_setUncertainty_22 : decode cL_setUncertainty 22 = .ok (.ireturn, 1) := by decide +kernel
theorem dL_setUncertainty_23 : decode cL_setUncertainty 23 = .ok (.iconst 0, 1) := by decide +kernel
theorem dL_setUncertainty_24 : decode cL_setUncertainty 24 = .ok (.ireturn, 1) := by decide +kernel
theorem dL_snapshotRead_0 : decode cL_snapshotRead 0 = .ok (.aload_n 3, 1) := by decide +kernel
theorem dL_snapshotRead_1 : decode cL_snapshotRead 1 = .ok (.iconst 0, 1) := by decide +kernel
theorem dL_snapshotRead_2 : decode cL_snapshotRead 2 = .ok (.aload_n 0, 1) := by decide +kernel
theorem dL_snapshotRead_3 : decode cL_snapshotRead 3 = .ok (.iload_n 1, 1) := by decide +kernel
theorem dL_snapshotRead_4 : decode cL_snapshotRead 4 = .ok (.iload_n 2, 1) := by decide +kernel
theorem dL_snapshotRead_5 : decode cL_snapshotRead 5 = .ok (.invokevirtual 45, 3) := by decide +kernel
theorem dL_snapshotRead_8 : decode cL_snapshotRead 8 = .ok (.i2l, 1) := by decide +kernel
theorem dL_snapshotRead_9 : decode cL_snapshotRead 9 = .ok (.lastore, 1) := by decide +kernel
theorem dL_snapshotRead_10 : decode cL_snapshotRead 10 = .ok (.goto 15, 3) := by decide +kernel
theorem dL_snapshotRead_13 : decode cL_snapshotRead 13 = .ok (.astore 4, 2) := by decide +kernel
theorem dL_snapshotRead_15 : decode cL_snapshotRead 15 = .ok (.iconst 1, 1) := by decide +kernel
theorem dL_snapshotRead_16 : decode cL_snapshotRead 16 = .ok (.ireturn, 1) := by decide +kernel
theorem dL_snapshotRead_17 : decode cL_snapshotRead 17 = .ok (.astore 4, 2) := by decide +kernel
theorem dL_snapshotRead_19 : decode cL_snapshotRead 19 = .ok (.iconst 2, 1) := by decide +kernel
theorem dL_snapshotRead_20 : decode cL_snapshotRead 20 = .ok (.ireturn, 1) := by decide +kernel
theorem dL_snapshotRead_21 : decode cL_snapshotRead 21 = .ok (.astore 4, 2) := by decide +kernel
theorem dL_snapshotRead_23 : decode cL_snapshotRead 23 = .ok (.iconst 3, 1) := by decide +kernel
theorem dL_snapshotRead_24 : decode cL_snapshotRead 24 = .ok (.ireturn, 1) := by decide +kernel
theorem dL_snapshotRead_25 : decode cL_snapshotRead 25 = .ok (.iconst 0, 1) := by decide +kernel
theorem dL_snapshotRead_26 : decode cL_snapshotRead 26 = .ok (.ireturn, 1) := by decide +kernel
theorem dL_appendText_0 : decode cL_appendText 0 = .ok (.aload_n 2, 1) := by decide +kernel
theorem dL_appendText_1 : decode cL_appendText 1 = .ok (.iconst 0, 1) := by decide +kernel
theorem dL_appendText_2 : decode cL_appendText 2 = .ok (.aload_n 0, 1) := by decide +kernel
theorem dL_appendText_3 : decode cL_appendText 3 = .ok (.iload_n 1, 1) := by decide +kernel
theorem dL_appendText_4 : decode cL_appendText 4 = .ok (.invokevirtual 48, 3) := by decide +kernel
theorem dL_appendText_7 : decode cL_appendText 7 = .ok (.i2l, 1) := by decide +kernel
theorem dL_appendText_8 : decode cL_appendText 8 = .ok (.lastore, 1) := by decide +kernel
theorem dL_appendText_9 : decode cL_appendText 9 = .ok (.goto 9, 3) := by decide +kernel
theorem dL_appendText_12 : decode cL_appendText 12 = .ok (.astore_n 3, 1) := by decide +kernel
theorem dL_appendText_13 : decode cL_appendText 13 = .ok (.iconst 1, 1) := by decide +kernel
theorem dL_appendText_14 : decode cL_appendText 14 = .ok (.ireturn, 1) := by decide +kernel
theorem dL_appendText_15 : decode cL_appendText 15 = .ok (.astore_n 3, 1) := by decide +kernel
theorem dL_appendText_16 : decode cL_appendText 16 = .ok (.iconst 2, 1) := by decide +kernel
theorem dL_appendText_17 : decode cL_appendText 17 = .ok (.ireturn, 1) := by decide +kernel
theorem dL_appendText_18 : decode cL_appendText 18 = .ok (.iconst 0, 1) := by decide +kernel
theorem dL_appendText_19 : decode cL_appendText 19 = .ok (.ireturn, 1) := by decide +kernel
theorem dL_runText_0 : decode cL_runText 0 = .ok (.aload_n 1, 1) := by decide +kernel
theorem dL_runText_1 : decode cL_runText 1 = .ok (.iconst 0, 1) := by decide +kernel
theorem dL_runText_2 : decode cL_runText 2 = .ok (.aload_n 0, 1) := by decide +kernel
theorem dL_runText_3 : decode cL_runText 3 = .ok (.invokevirtual 51, 3) := by decide +kernel
theorem dL_runText_6 : decode cL_runText 6 = .ok (.i2l, 1) := by decide +kernel
theorem dL_runText_7 : decode cL_runText 7 = .ok (.lastore, 1) := by decide +kernel
theorem dL_runText_8 : decode cL_runText 8 = .ok (.goto 6, 3) := by decide +kernel
theorem dL_runText_11 : decode cL_runText 11 = .ok (.astore_n 2, 1) := by decide +kernel
theorem dL_runText_12 : decode cL_runText 12 = .ok (.iconst 1, 1) := by decide +kernel
theorem dL_runText_13 : decode cL_runText 13 = .ok (.ireturn, 1) := by decide +kernel
theorem dL_runText_14 : decode cL_runText 14 = .ok (.iconst 0, 1) := by decide +kernel
theorem dL_runText_15 : decode cL_runText 15 = .ok (.ireturn, 1) := by decide +kernel
theorem dL_undo_0 : decode cL_undo 0 = .ok (.aload_n 1, 1) := by decide +kernel
theorem dL_undo_1 : decode cL_undo 1 = .ok (.iconst 0, 1) := by decide +kernel
theorem dL_undo_2 : decode cL_undo 2 = .ok (.aload_n 0, 1) := by decide +kernel
theorem dL_undo_3 : decode cL_undo 3 = .ok (.invokevirtual 55, 3) := by decide +kernel
theorem dL_undo_6 : decode cL_undo 6 = .ok (.i2l, 1) := by decide +kernel
theorem dL_undo_7 : decode cL_undo 7 = .ok (.lastore, 1) := by decide +kernel
theorem dL_undo_8 : decode cL_undo 8 = .ok (.goto 6, 3) := by decide +kernel
theorem dL_undo_11 : decode cL_undo 11 = .ok (.astore_n 2, 1) := by decide +kernel
theorem dL_undo_12 : decode cL_undo 12 = .ok (.iconst 1, 1) := by decide +kernel
theorem dL_undo_13 : decode cL_undo 13 = .ok (.ireturn, 1) := by decide +kernel
theorem dL_undo_14 : decode cL_undo 14 = .ok (.iconst 0, 1) := by decide +kernel
theorem dL_undo_15 : decode cL_undo 15 = .ok (.ireturn, 1) := by decide +kernel
theorem dL_save_0 : decode cL_save 0 = .ok (.aload_n 2, 1) := by decide +kernel
theorem dL_save_1 : decode cL_save 1 = .ok (.iconst 0, 1) := by decide +kernel
theorem dL_save_2 : decode cL_save 2 = .ok (.aload_n 0, 1) := by decide +kernel
theorem dL_save_3 : decode cL_save 3 = .ok (.iload_n 1, 1) := by decide +kernel
theorem dL_save_4 : decode cL_save 4 = .ok (.invokevirtual 58, 3) := by decide +kernel
theorem dL_save_7 : decode cL_save 7 = .ok (.i2l, 1) := by decide +kernel
theorem dL_save_8 : decode cL_save 8 = .ok (.lastore, 1) := by decide +kernel
theorem dL_save_9 : decode cL_save 9 = .ok (.goto 6, 3) := by decide +kernel
theorem dL_save_12 : decode cL_save 12 = .ok (.astore_n 3, 1) := by decide +kernel
theorem dL_save_13 : decode cL_save 13 = .ok (.iconst 1, 1) := by decide +kernel
theorem dL_save_14 : decode cL_save 14 = .ok (.ireturn, 1) := by decide +kernel
theorem dL_save_15 : decode cL_save 15 = .ok (.iconst 0, 1) := by decide +kernel
theorem dL_save_16 : decode cL_save 16 = .ok (.ireturn, 1) := by decide +kernel
theorem dL_restore_0 : decode cL_restore 0 = .ok (.aload_n 2, 1) := by decide +kernel
theorem dL_restore_1 : decode cL_restore 1 = .ok (.iconst 0, 1) := by decide +kernel
theorem dL_restore_2 : decode cL_restore 2 = .ok (.aload_n 0, 1) := by decide +kernel
theorem dL_restore_3 : decode cL_restore 3 = .ok (.iload_n 1, 1) := by decide +kernel
theorem dL_restore_4 : decode cL_restore 4 = .ok (.invokevirtual 61, 3) := by decide +kernel
theorem dL_restore_7 : decode cL_restore 7 = .ok (.i2l, 1) := by decide +kernel
theorem dL_restore_8 : decode cL_restore 8 = .ok (.lastore, 1) := by decide +kernel
theorem dL_restore_9 : decode cL_restore 9 = .ok (.goto 9, 3) := by decide +kernel
theorem dL_restore_12 : decode cL_restore 12 = .ok (.astore_n 3, 1) := by decide +kernel
theorem dL_restore_13 : decode cL_restore 13 = .ok (.iconst 1, 1) := by decide +kernel
theorem dL_restore_14 : decode cL_restore 14 = .ok (.ireturn, 1) := by decide +kernel
theorem dL_restore_15 : decode cL_restore 15 = .ok (.astore_n 3, 1) := by decide +kernel
theorem dL_restore_16 : decode cL_restore 16 = .ok (.iconst 2, 1) := by decide +kernel
theorem dL_restore_17 : decode cL_restore 17 = .ok (.ireturn, 1) := by decide +kernel
theorem dL_restore_18 : decode cL_restore 18 = .ok (.iconst 0, 1) := by decide +kernel
theorem dL_restore_19 : decode cL_restore 19 = .ok (.ireturn, 1) := by decide +kernel
theorem dL_reading_0 : decode cL_reading 0 = .ok (.aload_n 2, 1) := by decide +kernel
theorem dL_reading_1 : decode cL_reading 1 = .ok (.iconst 0, 1) := by decide +kernel
theorem dL_reading_2 : decode cL_reading 2 = .ok (.aload_n 0, 1) := by decide +kernel
theorem dL_reading_3 : decode cL_reading 3 = .ok (.iload_n 1, 1) := by decide +kernel
theorem dL_reading_4 : decode cL_reading 4 = .ok (.invokevirtual 64, 3) := by decide +kernel
theorem dL_reading_7 : decode cL_reading 7 = .ok (.i2l, 1) := by decide +kernel
theorem dL_reading_8 : decode cL_reading 8 = .ok (.lastore, 1) := by decide +kernel
theorem dL_reading_9 : decode cL_reading 9 = .ok (.goto 6, 3) := by decide +kernel
theorem dL_reading_12 : decode cL_reading 12 = .ok (.astore_n 3, 1) := by decide +kernel
theorem dL_reading_13 : decode cL_reading 13 = .ok (.iconst 1, 1) := by decide +kernel
theorem dL_reading_14 : decode cL_reading 14 = .ok (.ireturn, 1) := by decide +kernel
theorem dL_reading_15 : decode cL_reading 15 = .ok (.iconst 0, 1) := by decide +kernel
theorem dL_reading_16 : decode cL_reading 16 = .ok (.ireturn, 1) := by decide +kernel
theorem dL_earliest_0 : decode cL_earliest 0 = .ok (.aload_n 2, 1) := by decide +kernel
theorem dL_earliest_1 : decode cL_earliest 1 = .ok (.iconst 0, 1) := by decide +kernel
theorem dL_earliest_2 : decode cL_earliest 2 = .ok (.aload_n 0, 1) := by decide +kernel
theorem dL_earliest_3 : decode cL_earliest 3 = .ok (.iload_n 1, 1) := by decide +kernel
theorem dL_earliest_4 : decode cL_earliest 4 = .ok (.invokevirtual 67, 3) := by decide +kernel
theorem dL_earliest_7 : decode cL_earliest 7 = .ok (.i2l, 1) := by decide +kernel
theorem dL_earliest_8 : decode cL_earliest 8 = .ok (.lastore, 1) := by decide +kernel
theorem dL_earliest_9 : decode cL_earliest 9 = .ok (.goto 6, 3) := by decide +kernel
theorem dL_earliest_12 : decode cL_earliest 12 = .ok (.astore_n 3, 1) := by decide +kernel
theorem dL_earliest_13 : decode cL_earliest 13 = .ok (.iconst 1, 1) := by decide +kernel
theorem dL_earliest_14 : decode cL_earliest 14 = .ok (.ireturn, 1) := by decide +kernel
theorem dL_earliest_15 : decode cL_earliest 15 = .ok (.iconst 0, 1) := by decide +kernel
theorem dL_earliest_16 : decode cL_earliest 16 = .ok (.ireturn, 1) := by decide +kernel
theorem dL_latest_0 : decode cL_latest 0 = .ok (.aload_n 2, 1) := by decide +kernel
theorem dL_latest_1 : decode cL_latest 1 = .ok (.iconst 0, 1) := by decide +kernel
theorem dL_latest_2 : decode cL_latest 2 = .ok (.aload_n 0, 1) := by decide +kernel
theorem dL_latest_3 : decode cL_latest 3 = .ok (.iload_n 1, 1) := by decide +kernel
theorem dL_latest_4 : decode cL_latest 4 = .ok (.invokevirtual 70, 3) := by decide +kernel
theorem dL_latest_7 : decode cL_latest 7 = .ok (.i2l, 1) := by decide +kernel
theorem dL_latest_8 : decode cL_latest 8 = .ok (.lastore, 1) := by decide +kernel
theorem dL_latest_9 : decode cL_latest 9 = .ok (.goto 6, 3) := by decide +kernel
theorem dL_latest_12 : decode cL_latest 12 = .ok (.astore_n 3, 1) := by decide +kernel
theorem dL_latest_13 : decode cL_latest 13 = .ok (.iconst 1, 1) := by decide +kernel
theorem dL_latest_14 : decode cL_latest 14 = .ok (.ireturn, 1) := by decide +kernel
theorem dL_latest_15 : decode cL_latest 15 = .ok (.iconst 0, 1) := by decide +kernel
theorem dL_latest_16 : decode cL_latest 16 = .ok (.ireturn, 1) := by decide +kernel
theorem dL_isSound_0 : decode cL_isSound 0 = .ok (.aload_n 2, 1) := by decide +kernel
theorem dL_isSound_1 : decode cL_isSound 1 = .ok (.iconst 0, 1) := by decide +kernel
theorem dL_isSound_2 : decode cL_isSound 2 = .ok (.aload_n 0, 1) := by decide +kernel
theorem dL_isSound_3 : decode cL_isSound 3 = .ok (.iload_n 1, 1) := by decide +kernel
theorem dL_isSound_4 : decode cL_isSound 4 = .ok (.invokevirtual 73, 3) := by decide +kernel
theorem dL_isSound_7 : decode cL_isSound 7 = .ok (.ifCond .eq 7, 3) := by decide +kernel
theorem dL_isSound_10 : decode cL_isSound 10 = .ok (.lconst 1, 1) := by decide +kernel
theorem dL_isSound_11 : decode cL_isSound 11 = .ok (.goto 4, 3) := by decide +kernel
theorem dL_isSound_14 : decode cL_isSound 14 = .ok (.lconst 0, 1) := by decide +kernel
theorem dL_isSound_15 : decode cL_isSound 15 = .ok (.lastore, 1) := by decide +kernel
theorem dL_isSound_16 : decode cL_isSound 16 = .ok (.goto 6, 3) := by decide +kernel
theorem dL_isSound_19 : decode cL_isSound 19 = .ok (.astore_n 3, 1) := by decide +kernel
theorem dL_isSound_20 : decode cL_isSound 20 = .ok (.iconst 1, 1) := by decide +kernel
theorem dL_isSound_21 : decode cL_isSound 21 = .ok (.ireturn, 1) := by decide +kernel
theorem dL_isSound_22 : decode cL_isSound 22 = .ok (.iconst 0, 1) := by decide +kernel
theorem dL_isSound_23 : decode cL_isSound 23 = .ok (.ireturn, 1) := by decide +kernel
theorem dL_nextTimestamp_0 : decode cL_nextTimestamp 0 = .ok (.aload_n 2, 1) := by decide +kernel
theorem dL_nextTimestamp_1 : decode cL_nextTimestamp 1 = .ok (.iconst 0, 1) := by decide +kernel
theorem dL_nextTimestamp_2 : decode cL_nextTimestamp 2 = .ok (.aload_n 0, 1) := by decide +kernel
theorem dL_nextTimestamp_3 : decode cL_nextTimestamp 3 = .ok (.iload_n 1, 1) := by decide +kernel
theorem dL_nextTimestamp_4 : decode cL_nextTimestamp 4 = .ok (.invokevirtual 77, 3) := by decide +kernel
theorem dL_nextTimestamp_7 : decode cL_nextTimestamp 7 = .ok (.i2l, 1) := by decide +kernel
theorem dL_nextTimestamp_8 : decode cL_nextTimestamp 8 = .ok (.lastore, 1) := by decide +kernel
theorem dL_nextTimestamp_9 : decode cL_nextTimestamp 9 = .ok (.goto 6, 3) := by decide +kernel
theorem dL_nextTimestamp_12 : decode cL_nextTimestamp 12 = .ok (.astore_n 3, 1) := by decide +kernel
theorem dL_nextTimestamp_13 : decode cL_nextTimestamp 13 = .ok (.iconst 1, 1) := by decide +kernel
theorem dL_nextTimestamp_14 : decode cL_nextTimestamp 14 = .ok (.ireturn, 1) := by decide +kernel
theorem dL_nextTimestamp_15 : decode cL_nextTimestamp 15 = .ok (.iconst 0, 1) := by decide +kernel
theorem dL_nextTimestamp_16 : decode cL_nextTimestamp 16 = .ok (.ireturn, 1) := by decide +kernel
theorem dL_state_0 : decode cL_state 0 = .ok (.aload_n 2, 1) := by decide +kernel
theorem dL_state_1 : decode cL_state 1 = .ok (.iconst 0, 1) := by decide +kernel
theorem dL_state_2 : decode cL_state 2 = .ok (.aload_n 0, 1) := by decide +kernel
theorem dL_state_3 : decode cL_state 3 = .ok (.iload_n 1, 1) := by decide +kernel
theorem dL_state_4 : decode cL_state 4 = .ok (.invokevirtual 80, 3) := by decide +kernel
theorem dL_state_7 : decode cL_state 7 = .ok (.i2l, 1) := by decide +kernel
theorem dL_state_8 : decode cL_state 8 = .ok (.lastore, 1) := by decide +kernel
theorem dL_state_9 : decode cL_state 9 = .ok (.goto 6, 3) := by decide +kernel
theorem dL_state_12 : decode cL_state 12 = .ok (.astore_n 3, 1) := by decide +kernel
theorem dL_state_13 : decode cL_state 13 = .ok (.iconst 1, 1) := by decide +kernel
theorem dL_state_14 : decode cL_state 14 = .ok (.ireturn, 1) := by decide +kernel
theorem dL_state_15 : decode cL_state 15 = .ok (.iconst 0, 1) := by decide +kernel
theorem dL_state_16 : decode cL_state 16 = .ok (.ireturn, 1) := by decide +kernel
theorem dL_timestamp_0 : decode cL_timestamp 0 = .ok (.aload_n 2, 1) := by decide +kernel
theorem dL_timestamp_1 : decode cL_timestamp 1 = .ok (.iconst 0, 1) := by decide +kernel
theorem dL_timestamp_2 : decode cL_timestamp 2 = .ok (.aload_n 0, 1) := by decide +kernel
theorem dL_timestamp_3 : decode cL_timestamp 3 = .ok (.iload_n 1, 1) := by decide +kernel
theorem dL_timestamp_4 : decode cL_timestamp 4 = .ok (.invokevirtual 83, 3) := by decide +kernel
theorem dL_timestamp_7 : decode cL_timestamp 7 = .ok (.i2l, 1) := by decide +kernel
theorem dL_timestamp_8 : decode cL_timestamp 8 = .ok (.lastore, 1) := by decide +kernel
theorem dL_timestamp_9 : decode cL_timestamp 9 = .ok (.goto 6, 3) := by decide +kernel
theorem dL_timestamp_12 : decode cL_timestamp 12 = .ok (.astore_n 3, 1) := by decide +kernel
theorem dL_timestamp_13 : decode cL_timestamp 13 = .ok (.iconst 1, 1) := by decide +kernel
theorem dL_timestamp_14 : decode cL_timestamp 14 = .ok (.ireturn, 1) := by decide +kernel
theorem dL_timestamp_15 : decode cL_timestamp 15 = .ok (.iconst 0, 1) := by decide +kernel
theorem dL_timestamp_16 : decode cL_timestamp 16 = .ok (.ireturn, 1) := by decide +kernel
theorem dL_requestTime_0 : decode cL_requestTime 0 = .ok (.aload_n 2, 1) := by decide +kernel
theorem dL_requestTime_1 : decode cL_requestTime 1 = .ok (.iconst 0, 1) := by decide +kernel
theorem dL_requestTime_2 : decode cL_requestTime 2 = .ok (.aload_n 0, 1) := by decide +kernel
theorem dL_requestTime_3 : decode cL_requestTime 3 = .ok (.iload_n 1, 1) := by decide +kernel
theorem dL_requestTime_4 : decode cL_requestTime 4 = .ok (.invokevirtual 86, 3) := by decide +kernel
theorem dL_requestTime_7 : decode cL_requestTime 7 = .ok (.i2l, 1) := by decide +kernel
theorem dL_requestTime_8 : decode cL_requestTime 8 = .ok (.lastore, 1) := by decide +kernel
theorem dL_requestTime_9 : decode cL_requestTime 9 = .ok (.goto 6, 3) := by decide +kernel
theorem dL_requestTime_12 : decode cL_requestTime 12 = .ok (.astore_n 3, 1) := by decide +kernel
theorem dL_requestTime_13 : decode cL_requestTime 13 = .ok (.iconst 1, 1) := by decide +kernel
theorem dL_requestTime_14 : decode cL_requestTime 14 = .ok (.ireturn, 1) := by decide +kernel
theorem dL_requestTime_15 : decode cL_requestTime 15 = .ok (.iconst 0, 1) := by decide +kernel
theorem dL_requestTime_16 : decode cL_requestTime 16 = .ok (.ireturn, 1) := by decide +kernel
theorem dL_commitTime_0 : decode cL_commitTime 0 = .ok (.aload_n 2, 1) := by decide +kernel
theorem dL_commitTime_1 : decode cL_commitTime 1 = .ok (.iconst 0, 1) := by decide +kernel
theorem dL_commitTime_2 : decode cL_commitTime 2 = .ok (.aload_n 0, 1) := by decide +kernel
theorem dL_commitTime_3 : decode cL_commitTime 3 = .ok (.iload_n 1, 1) := by decide +kernel
theorem dL_commitTime_4 : decode cL_commitTime 4 = .ok (.invokevirtual 89, 3) := by decide +kernel
theorem dL_commitTime_7 : decode cL_commitTime 7 = .ok (.i2l, 1) := by decide +kernel
theorem dL_commitTime_8 : decode cL_commitTime 8 = .ok (.lastore, 1) := by decide +kernel
theorem dL_commitTime_9 : decode cL_commitTime 9 = .ok (.goto 6, 3) := by decide +kernel
theorem dL_commitTime_12 : decode cL_commitTime 12 = .ok (.astore_n 3, 1) := by decide +kernel
theorem dL_commitTime_13 : decode cL_commitTime 13 = .ok (.iconst 1, 1) := by decide +kernel
theorem dL_commitTime_14 : decode cL_commitTime 14 = .ok (.ireturn, 1) := by decide +kernel
theorem dL_commitTime_15 : decode cL_commitTime 15 = .ok (.iconst 0, 1) := by decide +kernel
theorem dL_commitTime_16 : decode cL_commitTime 16 = .ok (.ireturn, 1) := by decide +kernel
theorem dL_bufferedValue_0 : decode cL_bufferedValue 0 = .ok (.aload_n 3, 1) := by decide +kernel
theorem dL_bufferedValue_1 : decode cL_bufferedValue 1 = .ok (.iconst 0, 1) := by decide +kernel
theorem dL_bufferedValue_2 : decode cL_bufferedValue 2 = .ok (.aload_n 0, 1) := by decide +kernel
theorem dL_bufferedValue_3 : decode cL_bufferedValue 3 = .ok (.iload_n 1, 1) := by decide +kernel
theorem dL_bufferedValue_4 : decode cL_bufferedValue 4 = .ok (.iload_n 2, 1) := by decide +kernel
theorem dL_bufferedValue_5 : decode cL_bufferedValue 5 = .ok (.invokevirtual 92, 3) := by decide +kernel
theorem dL_bufferedValue_8 : decode cL_bufferedValue 8 = .ok (.i2l, 1) := by decide +kernel
theorem dL_bufferedValue_9 : decode cL_bufferedValue 9 = .ok (.lastore, 1) := by decide +kernel
theorem dL_bufferedValue_10 : decode cL_bufferedValue 10 = .ok (.goto 7, 3) := by decide +kernel
theorem dL_bufferedValue_13 : decode cL_bufferedValue 13 = .ok (.astore 4, 2) := by decide +kernel
theorem dL_bufferedValue_15 : decode cL_bufferedValue 15 = .ok (.iconst 1, 1) := by decide +kernel
theorem dL_bufferedValue_16 : decode cL_bufferedValue 16 = .ok (.ireturn, 1) := by decide +kernel
theorem dL_bufferedValue_17 : decode cL_bufferedValue 17 = .ok (.iconst 0, 1) := by decide +kernel
theorem dL_bufferedValue_18 : decode cL_bufferedValue 18 = .ok (.ireturn, 1) := by decide +kernel
theorem dL_recordedTimestamp_0 : decode cL_recordedTimestamp 0 = .ok (.aload_n 3, 1) := by decide +kernel
theorem dL_recordedTimestamp_1 : decode cL_recordedTimestamp 1 = .ok (.iconst 0, 1) := by decide +kernel
theorem dL_recordedTimestamp_2 : decode cL_recordedTimestamp 2 = .ok (.aload_n 0, 1) := by decide +kernel
theorem dL_recordedTimestamp_3 : decode cL_recordedTimestamp 3 = .ok (.iload_n 1, 1) := by decide +kernel
theorem dL_recordedTimestamp_4 : decode cL_recordedTimestamp 4 = .ok (.iload_n 2, 1) := by decide +kernel
theorem dL_recordedTimestamp_5 : decode cL_recordedTimestamp 5 = .ok (.invokevirtual 95, 3) := by decide +kernel
theorem dL_recordedTimestamp_8 : decode cL_recordedTimestamp 8 = .ok (.i2l, 1) := by decide +kernel
theorem dL_recordedTimestamp_9 : decode cL_recordedTimestamp 9 = .ok (.lastore, 1) := by decide +kernel
theorem dL_recordedTimestamp_10 : decode cL_recordedTimestamp 10 = .ok (.goto 7, 3) := by decide +kernel
theorem dL_recordedTimestamp_13 : decode cL_recordedTimestamp 13 = .ok (.astore 4, 2) := by decide +kernel
theorem dL_recordedTimestamp_15 : decode cL_recordedTimestamp 15 = .ok (.iconst 1, 1) := by decide +kernel
theorem dL_recordedTimestamp_16 : decode cL_recordedTimestamp 16 = .ok (.ireturn, 1) := by decide +kernel
theorem dL_recordedTimestamp_17 : decode cL_recordedTimestamp 17 = .ok (.iconst 0, 1) := by decide +kernel
theorem dL_recordedTimestamp_18 : decode cL_recordedTimestamp 18 = .ok (.ireturn, 1) := by decide +kernel
theorem dL_ifCommitted_0 : decode cL_ifCommitted 0 = .ok (.aload_n 2, 1) := by decide +kernel
theorem dL_ifCommitted_1 : decode cL_ifCommitted 1 = .ok (.iconst 0, 1) := by decide +kernel
theorem dL_ifCommitted_2 : decode cL_ifCommitted 2 = .ok (.aload_n 0, 1) := by decide +kernel
theorem dL_ifCommitted_3 : decode cL_ifCommitted 3 = .ok (.iload_n 1, 1) := by decide +kernel
theorem dL_ifCommitted_4 : decode cL_ifCommitted 4 = .ok (.invokevirtual 98, 3) := by decide +kernel
theorem dL_ifCommitted_7 : decode cL_ifCommitted 7 = .ok (.i2l, 1) := by decide +kernel
theorem dL_ifCommitted_8 : decode cL_ifCommitted 8 = .ok (.lastore, 1) := by decide +kernel
theorem dL_ifCommitted_9 : decode cL_ifCommitted 9 = .ok (.goto 6, 3) := by decide +kernel
theorem dL_ifCommitted_12 : decode cL_ifCommitted 12 = .ok (.astore_n 3, 1) := by decide +kernel
theorem dL_ifCommitted_13 : decode cL_ifCommitted 13 = .ok (.iconst 1, 1) := by decide +kernel
theorem dL_ifCommitted_14 : decode cL_ifCommitted 14 = .ok (.ireturn, 1) := by decide +kernel
theorem dL_ifCommitted_15 : decode cL_ifCommitted 15 = .ok (.iconst 0, 1) := by decide +kernel
theorem dL_ifCommitted_16 : decode cL_ifCommitted 16 = .ok (.ireturn, 1) := by decide +kernel
theorem dL_ticksToCommit_0 : decode cL_ticksToCommit 0 = .ok (.aload_n 2, 1) := by decide +kernel
theorem dL_ticksToCommit_1 : decode cL_ticksToCommit 1 = .ok (.iconst 0, 1) := by decide +kernel
theorem dL_ticksToCommit_2 : decode cL_ticksToCommit 2 = .ok (.aload_n 0, 1) := by decide +kernel
theorem dL_ticksToCommit_3 : decode cL_ticksToCommit 3 = .ok (.iload_n 1, 1) := by decide +kernel
theorem dL_ticksToCommit_4 : decode cL_ticksToCommit 4 = .ok (.invokevirtual 101, 3) := by decide +kernel
theorem dL_ticksToCommit_7 : decode cL_ticksToCommit 7 = .ok (.i2l, 1) := by decide +kernel
theorem dL_ticksToCommit_8 : decode cL_ticksToCommit 8 = .ok (.lastore, 1) := by decide +kernel
theorem dL_ticksToCommit_9 : decode cL_ticksToCommit 9 = .ok (.goto 6, 3) := by decide +kernel
theorem dL_ticksToCommit_12 : decode cL_ticksToCommit 12 = .ok (.astore_n 3, 1) := by decide +kernel
theorem dL_ticksToCommit_13 : decode cL_ticksToCommit 13 = .ok (.iconst 1, 1) := by decide +kernel
theorem dL_ticksToCommit_14 : decode cL_ticksToCommit 14 = .ok (.ireturn, 1) := by decide +kernel
theorem dL_ticksToCommit_15 : decode cL_ticksToCommit 15 = .ok (.iconst 0, 1) := by decide +kernel
theorem dL_ticksToCommit_16 : decode cL_ticksToCommit 16 = .ok (.ireturn, 1) := by decide +kernel
theorem dL_versions_0 : decode cL_versions 0 = .ok (.aload_n 2, 1) := by decide +kernel
theorem dL_versions_1 : decode cL_versions 1 = .ok (.iconst 0, 1) := by decide +kernel
theorem dL_versions_2 : decode cL_versions 2 = .ok (.aload_n 0, 1) := by decide +kernel
theorem dL_versions_3 : decode cL_versions 3 = .ok (.iload_n 1, 1) := by decide +kernel
theorem dL_versions_4 : decode cL_versions 4 = .ok (.invokevirtual 104, 3) := by decide +kernel
theorem dL_versions_7 : decode cL_versions 7 = .ok (.i2l, 1) := by decide +kernel
theorem dL_versions_8 : decode cL_versions 8 = .ok (.lastore, 1) := by decide +kernel
theorem dL_versions_9 : decode cL_versions 9 = .ok (.goto 6, 3) := by decide +kernel
theorem dL_versions_12 : decode cL_versions 12 = .ok (.astore_n 3, 1) := by decide +kernel
theorem dL_versions_13 : decode cL_versions 13 = .ok (.iconst 1, 1) := by decide +kernel
theorem dL_versions_14 : decode cL_versions 14 = .ok (.ireturn, 1) := by decide +kernel
theorem dL_versions_15 : decode cL_versions 15 = .ok (.iconst 0, 1) := by decide +kernel
theorem dL_versions_16 : decode cL_versions 16 = .ok (.ireturn, 1) := by decide +kernel
theorem dL_versionTimestamp_0 : decode cL_versionTimestamp 0 = .ok (.aload_n 3, 1) := by decide +kernel
theorem dL_versionTimestamp_1 : decode cL_versionTimestamp 1 = .ok (.iconst 0, 1) := by decide +kernel
theorem dL_versionTimestamp_2 : decode cL_versionTimestamp 2 = .ok (.aload_n 0, 1) := by decide +kernel
theorem dL_versionTimestamp_3 : decode cL_versionTimestamp 3 = .ok (.iload_n 1, 1) := by decide +kernel
theorem dL_versionTimestamp_4 : decode cL_versionTimestamp 4 = .ok (.iload_n 2, 1) := by decide +kernel
theorem dL_versionTimestamp_5 : decode cL_versionTimestamp 5 = .ok (.invokevirtual 107, 3) := by decide +kernel
theorem dL_versionTimestamp_8 : decode cL_versionTimestamp 8 = .ok (.i2l, 1) := by decide +kernel
theorem dL_versionTimestamp_9 : decode cL_versionTimestamp 9 = .ok (.lastore, 1) := by decide +kernel
theorem dL_versionTimestamp_10 : decode cL_versionTimestamp 10 = .ok (.goto 7, 3) := by decide +kernel
theorem dL_versionTimestamp_13 : decode cL_versionTimestamp 13 = .ok (.astore 4, 2) := by decide +kernel
theorem dL_versionTimestamp_15 : decode cL_versionTimestamp 15 = .ok (.iconst 1, 1) := by decide +kernel
theorem dL_versionTimestamp_16 : decode cL_versionTimestamp 16 = .ok (.ireturn, 1) := by decide +kernel
theorem dL_versionTimestamp_17 : decode cL_versionTimestamp 17 = .ok (.iconst 0, 1) := by decide +kernel
theorem dL_versionTimestamp_18 : decode cL_versionTimestamp 18 = .ok (.ireturn, 1) := by decide +kernel
theorem dL_valueAt_0 : decode cL_valueAt 0 = .ok (.aload_n 3, 1) := by decide +kernel
theorem dL_valueAt_1 : decode cL_valueAt 1 = .ok (.iconst 0, 1) := by decide +kernel
theorem dL_valueAt_2 : decode cL_valueAt 2 = .ok (.aload_n 0, 1) := by decide +kernel
theorem dL_valueAt_3 : decode cL_valueAt 3 = .ok (.iload_n 1, 1) := by decide +kernel
theorem dL_valueAt_4 : decode cL_valueAt 4 = .ok (.iload_n 2, 1) := by decide +kernel
theorem dL_valueAt_5 : decode cL_valueAt 5 = .ok (.invokevirtual 110, 3) := by decide +kernel
theorem dL_valueAt_8 : decode cL_valueAt 8 = .ok (.i2l, 1) := by decide +kernel
theorem dL_valueAt_9 : decode cL_valueAt 9 = .ok (.lastore, 1) := by decide +kernel
theorem dL_valueAt_10 : decode cL_valueAt 10 = .ok (.goto 11, 3) := by decide +kernel
theorem dL_valueAt_13 : decode cL_valueAt 13 = .ok (.astore 4, 2) := by decide +kernel
theorem dL_valueAt_15 : decode cL_valueAt 15 = .ok (.iconst 1, 1) := by decide +kernel
theorem dL_valueAt_16 : decode cL_valueAt 16 = .ok (.ireturn, 1) := by decide +kernel
theorem dL_valueAt_17 : decode cL_valueAt 17 = .ok (.astore 4, 2) := by decide +kernel
theorem dL_valueAt_19 : decode cL_valueAt 19 = .ok (.iconst 2, 1) := by decide +kernel
theorem dL_valueAt_20 : decode cL_valueAt 20 = .ok (.ireturn, 1) := by decide +kernel
theorem dL_valueAt_21 : decode cL_valueAt 21 = .ok (.iconst 0, 1) := by decide +kernel
theorem dL_valueAt_22 : decode cL_valueAt 22 = .ok (.ireturn, 1) := by decide +kernel
theorem dL_replayedValueAt_0 : decode cL_replayedValueAt 0 = .ok (.aload_n 3, 1) := by decide +kernel
theorem dL_replayedValueAt_1 : decode cL_replayedValueAt 1 = .ok (.iconst 0, 1) := by decide +kernel
theorem dL_replayedValueAt_2 : decode cL_replayedValueAt 2 = .ok (.aload_n 0, 1) := by decide +kernel
theorem dL_replayedValueAt_3 : decode cL_replayedValueAt 3 = .ok (.iload_n 1, 1) := by decide +kernel
theorem dL_replayedValueAt_4 : decode cL_replayedValueAt 4 = .ok (.iload_n 2, 1) := by decide +kernel
theorem dL_replayedValueAt_5 : decode cL_replayedValueAt 5 = .ok (.invokevirtual 113, 3) := by decide +kernel
theorem dL_replayedValueAt_8 : decode cL_replayedValueAt 8 = .ok (.i2l, 1) := by decide +kernel
theorem dL_replayedValueAt_9 : decode cL_replayedValueAt 9 = .ok (.lastore, 1) := by decide +kernel
theorem dL_replayedValueAt_10 : decode cL_replayedValueAt 10 = .ok (.goto 11, 3) := by decide +kernel
theorem dL_replayedValueAt_13 : decode cL_replayedValueAt 13 = .ok (.astore 4, 2) := by decide +kernel
theorem dL_replayedValueAt_15 : decode cL_replayedValueAt 15 = .ok (.iconst 1, 1) := by decide +kernel
theorem dL_replayedValueAt_16 : decode cL_replayedValueAt 16 = .ok (.ireturn, 1) := by decide +kernel
theorem dL_replayedValueAt_17 : decode cL_replayedValueAt 17 = .ok (.astore 4, 2) := by decide +kernel
theorem dL_replayedValueAt_19 : decode cL_replayedValueAt 19 = .ok (.iconst 2, 1) := by decide +kernel
theorem dL_replayedValueAt_20 : decode cL_replayedValueAt 20 = .ok (.ireturn, 1) := by decide +kernel
theorem dL_replayedValueAt_21 : decode cL_replayedValueAt 21 = .ok (.iconst 0, 1) := by decide +kernel
theorem dL_replayedValueAt_22 : decode cL_replayedValueAt 22 = .ok (.ireturn, 1) := by decide +kernel
theorem dL_waitingWriter_0 : decode cL_waitingWriter 0 = .ok (.aload_n 2, 1) := by decide +kernel
theorem dL_waitingWriter_1 : decode cL_waitingWriter 1 = .ok (.iconst 0, 1) := by decide +kernel
theorem dL_waitingWriter_2 : decode cL_waitingWriter 2 = .ok (.aload_n 0, 1) := by decide +kernel
theorem dL_waitingWriter_3 : decode cL_waitingWriter 3 = .ok (.iload_n 1, 1) := by decide +kernel
theorem dL_waitingWriter_4 : decode cL_waitingWriter 4 = .ok (.invokevirtual 116, 3) := by decide +kernel
theorem dL_waitingWriter_7 : decode cL_waitingWriter 7 = .ok (.i2l, 1) := by decide +kernel
theorem dL_waitingWriter_8 : decode cL_waitingWriter 8 = .ok (.lastore, 1) := by decide +kernel
theorem dL_waitingWriter_9 : decode cL_waitingWriter 9 = .ok (.goto 6, 3) := by decide +kernel
theorem dL_waitingWriter_12 : decode cL_waitingWriter 12 = .ok (.astore_n 3, 1) := by decide +kernel
theorem dL_waitingWriter_13 : decode cL_waitingWriter 13 = .ok (.iconst 1, 1) := by decide +kernel
theorem dL_waitingWriter_14 : decode cL_waitingWriter 14 = .ok (.ireturn, 1) := by decide +kernel
theorem dL_waitingWriter_15 : decode cL_waitingWriter 15 = .ok (.iconst 0, 1) := by decide +kernel
theorem dL_waitingWriter_16 : decode cL_waitingWriter 16 = .ok (.ireturn, 1) := by decide +kernel
theorem dL_readerMark_0 : decode cL_readerMark 0 = .ok (.aload_n 2, 1) := by decide +kernel
theorem dL_readerMark_1 : decode cL_readerMark 1 = .ok (.iconst 0, 1) := by decide +kernel
theorem dL_readerMark_2 : decode cL_readerMark 2 = .ok (.aload_n 0, 1) := by decide +kernel
theorem dL_readerMark_3 : decode cL_readerMark 3 = .ok (.iload_n 1, 1) := by decide +kernel
theorem dL_readerMark_4 : decode cL_readerMark 4 = .ok (.invokevirtual 119, 3) := by decide +kernel
theorem dL_readerMark_7 : decode cL_readerMark 7 = .ok (.i2l, 1) := by decide +kernel
theorem dL_readerMark_8 : decode cL_readerMark 8 = .ok (.lastore, 1) := by decide +kernel
theorem dL_readerMark_9 : decode cL_readerMark 9 = .ok (.goto 6, 3) := by decide +kernel
theorem dL_readerMark_12 : decode cL_readerMark 12 = .ok (.astore_n 3, 1) := by decide +kernel
theorem dL_readerMark_13 : decode cL_readerMark 13 = .ok (.iconst 1, 1) := by decide +kernel
theorem dL_readerMark_14 : decode cL_readerMark 14 = .ok (.ireturn, 1) := by decide +kernel
theorem dL_readerMark_15 : decode cL_readerMark 15 = .ok (.iconst 0, 1) := by decide +kernel
theorem dL_readerMark_16 : decode cL_readerMark 16 = .ok (.ireturn, 1) := by decide +kernel
theorem dL_ticksUntilSafe_0 : decode cL_ticksUntilSafe 0 = .ok (.aload_n 2, 1) := by decide +kernel
theorem dL_ticksUntilSafe_1 : decode cL_ticksUntilSafe 1 = .ok (.iconst 0, 1) := by decide +kernel
theorem dL_ticksUntilSafe_2 : decode cL_ticksUntilSafe 2 = .ok (.aload_n 0, 1) := by decide +kernel
theorem dL_ticksUntilSafe_3 : decode cL_ticksUntilSafe 3 = .ok (.iload_n 1, 1) := by decide +kernel
theorem dL_ticksUntilSafe_4 : decode cL_ticksUntilSafe 4 = .ok (.invokevirtual 122, 3) := by decide +kernel
theorem dL_ticksUntilSafe_7 : decode cL_ticksUntilSafe 7 = .ok (.i2l, 1) := by decide +kernel
theorem dL_ticksUntilSafe_8 : decode cL_ticksUntilSafe 8 = .ok (.lastore, 1) := by decide +kernel
theorem dL_ticksUntilSafe_9 : decode cL_ticksUntilSafe 9 = .ok (.goto 6, 3) := by decide +kernel
theorem dL_ticksUntilSafe_12 : decode cL_ticksUntilSafe 12 = .ok (.astore_n 3, 1) := by decide +kernel
theorem dL_ticksUntilSafe_13 : decode cL_ticksUntilSafe 13 = .ok (.iconst 1, 1) := by decide +kernel
theorem dL_ticksUntilSafe_14 : decode cL_ticksUntilSafe 14 = .ok (.ireturn, 1) := by decide +kernel
theorem dL_ticksUntilSafe_15 : decode cL_ticksUntilSafe 15 = .ok (.iconst 0, 1) := by decide +kernel
theorem dL_ticksUntilSafe_16 : decode cL_ticksUntilSafe 16 = .ok (.ireturn, 1) := by decide +kernel
theorem dL_countInState_0 : decode cL_countInState 0 = .ok (.aload_n 2, 1) := by decide +kernel
theorem dL_countInState_1 : decode cL_countInState 1 = .ok (.iconst 0, 1) := by decide +kernel
theorem dL_countInState_2 : decode cL_countInState 2 = .ok (.aload_n 0, 1) := by decide +kernel
theorem dL_countInState_3 : decode cL_countInState 3 = .ok (.iload_n 1, 1) := by decide +kernel
theorem dL_countInState_4 : decode cL_countInState 4 = .ok (.invokevirtual 125, 3) := by decide +kernel
theorem dL_countInState_7 : decode cL_countInState 7 = .ok (.i2l, 1) := by decide +kernel
theorem dL_countInState_8 : decode cL_countInState 8 = .ok (.lastore, 1) := by decide +kernel
theorem dL_countInState_9 : decode cL_countInState 9 = .ok (.goto 6, 3) := by decide +kernel
theorem dL_countInState_12 : decode cL_countInState 12 = .ok (.astore_n 3, 1) := by decide +kernel
theorem dL_countInState_13 : decode cL_countInState 13 = .ok (.iconst 1, 1) := by decide +kernel
theorem dL_countInState_14 : decode cL_countInState 14 = .ok (.ireturn, 1) := by decide +kernel
theorem dL_countInState_15 : decode cL_countInState 15 = .ok (.iconst 0, 1) := by decide +kernel
theorem dL_countInState_16 : decode cL_countInState 16 = .ok (.ireturn, 1) := by decide +kernel
