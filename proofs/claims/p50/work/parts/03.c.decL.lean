theorem dL_cell_0 : decode cL_cell 0 = .ok (.iload_n 1, 1) := by decide +kernel
theorem dL_cell_1 : decode cL_cell 1 = .ok (.aload_n 0, 1) := by decide +kernel
theorem dL_cell_2 : decode cL_cell 2 = .ok (.arraylength, 1) := by decide +kernel
theorem dL_cell_3 : decode cL_cell 3 = .ok (.if_icmp .ge 9, 3) := by decide +kernel
theorem dL_cell_6 : decode cL_cell 6 = .ok (.aload_n 0, 1) := by decide +kernel
theorem dL_cell_7 : decode cL_cell 7 = .ok (.iload_n 1, 1) := by decide +kernel
theorem dL_cell_8 : decode cL_cell 8 = .ok (.iaload, 1) := by decide +kernel
theorem dL_cell_9 : decode cL_cell 9 = .ok (.goto 15, 3) := by decide +kernel
theorem dL_cell_12 : decode cL_cell 12 = .ok (.sipush 7919, 3) := by decide +kernel
theorem dL_cell_15 : decode cL_cell 15 = .ok (.iload_n 1, 1) := by decide +kernel
theorem dL_cell_16 : decode cL_cell 16 = .ok (.iconst 3, 1) := by decide +kernel
theorem dL_cell_17 : decode cL_cell 17 = .ok (.iadd, 1) := by decide +kernel
theorem dL_cell_18 : decode cL_cell 18 = .ok (.imul, 1) := by decide +kernel
theorem dL_cell_19 : decode cL_cell 19 = .ok (.iload_n 1, 1) := by decide +kernel
theorem dL_cell_20 : decode cL_cell 20 = .ok (.bipush 11, 2) := by decide +kernel
theorem dL_cell_22 : decode cL_cell 22 = .ok (.iadd, 1) := by decide +kernel
theorem dL_cell_23 : decode cL_cell 23 = .ok (.imul, 1) := by decide +kernel
theorem dL_cell_24 : decode cL_cell 24 = .ok (.ireturn, 1) := by decide +kernel
theorem dL_low_0 : decode cL_low 0 = .ok (.iload_n 0, 1) := by decide +kernel
theorem dL_low_1 : decode cL_low 1 = .ok (.ldc 7, 2) := by decide +kernel
theorem dL_low_3 : decode cL_low 3 = .ok (.iand, 1) := by decide +kernel
theorem dL_low_4 : decode cL_low 4 = .ok (.iload_n 1, 1) := by decide +kernel
theorem dL_low_5 : decode cL_low 5 = .ok (.irem, 1) := by decide +kernel
theorem dL_low_6 : decode cL_low 6 = .ok (.ireturn, 1) := by decide +kernel
theorem dL_begins_0 : decode cL_begins 0 = .ok (.aload_n 0, 1) := by decide +kernel
theorem dL_begins_1 : decode cL_begins 1 = .ok (.iload_n 1, 1) := by decide +kernel
theorem dL_begins_2 : decode cL_begins 2 = .ok (.invokevirtual 8, 3) := by decide +kernel
theorem dL_begins_5 : decode cL_begins 5 = .ok (.ireturn, 1) := by decide +kernel
theorem dL_begins_6 : decode cL_begins 6 = .ok (.astore_n 2, 1) := by decide +kernel
theorem dL_begins_7 : decode cL_begins 7 = .ok (.ldc 16, 2) := by decide +kernel
theorem dL_begins_9 : decode cL_begins 9 = .ok (.ireturn, 1) := by decide +kernel
theorem dL_reads_0 : decode cL_reads 0 = .ok (.aload_n 0, 1) := by decide +kernel
theorem dL_reads_1 : decode cL_reads 1 = .ok (.iload_n 1, 1) := by decide +kernel
theorem dL_reads_2 : decode cL_reads 2 = .ok (.iload_n 2, 1) := by decide +kernel
theorem dL_reads_3 : decode cL_reads 3 = .ok (.invokevirtual 17, 3) := by decide +kernel
theorem dL_reads_6 : decode cL_reads 6 = .ok (.ireturn, 1) := by decide +kernel
theorem dL_reads_7 : decode cL_reads 7 = .ok (.astore_n 3, 1) := by decide +kernel
theorem dL_reads_8 : decode cL_reads 8 = .ok (.ldc 16, 2) := by decide +kernel
theorem dL_reads_10 : decode cL_reads 10 = .ok (.ireturn, 1) := by decide +kernel
theorem dL_writes_0 : decode cL_writes 0 = .ok (.aload_n 0, 1) := by decide +kernel
theorem dL_writes_1 : decode cL_writes 1 = .ok (.iload_n 1, 1) := by decide +kernel
theorem dL_writes_2 : decode cL_writes 2 = .ok (.iload_n 2, 1) := by decide +kernel
theorem dL_writes_3 : decode cL_writes 3 = .ok (.iload_n 3, 1) := by decide +kernel
theorem dL_writes_4 : decode cL_writes 4 = .ok (.invokevirtual 21, 3) := by decide +kernel
theorem dL_writes_7 : decode cL_writes 7 = .ok (.ireturn, 1) := by decide +kernel
theorem dL_writes_8 : decode cL_writes 8 = .ok (.astore 4, 2) := by decide +kernel
theorem dL_writes_10 : decode cL_writes 10 = .ok (.ldc 16, 2) := by decide +kernel
theorem dL_writes_12 : decode cL_writes 12 = .ok (.ireturn, 1) := by decide +kernel
theorem dL_commits_0 : decode cL_commits 0 = .ok (.aload_n 0, 1) := by decide +kernel
theorem dL_commits_1 : decode cL_commits 1 = .ok (.iload_n 1, 1) := by decide +kernel
theorem dL_commits_2 : decode cL_commits 2 = .ok (.invokevirtual 25, 3) := by decide +kernel
theorem dL_commits_5 : decode cL_commits 5 = .ok (.ireturn, 1) := by decide +kernel
theorem dL_commits_6 : decode cL_commits 6 = .ok (.astore_n 2, 1) := by decide +kernel
theorem dL_commits_7 : decode cL_commits 7 = .ok (.ldc 16, 2) := by decide +kernel
theorem dL_commits_9 : decode cL_commits 9 = .ok (.ireturn, 1) := by decide +kernel
theorem dL_aborts_0 : decode cL_aborts 0 = .ok (.aload_n 0, 1) := by decide +kernel
theorem dL_aborts_1 : decode cL_aborts 1 = .ok (.iload_n 1, 1) := by decide +kernel
theorem dL_aborts_2 : decode cL_aborts 2 = .ok (.invokevirtual 28, 3) := by decide +kernel
theorem dL_aborts_5 : decode cL_aborts 5 = .ok (.ireturn, 1) := by decide +kernel
theorem dL_aborts_6 : decode cL_aborts 6 = .ok (.astore_n 2, 1) := by decide +kernel
theorem dL_aborts_7 : decode cL_aborts 7 = .ok (.ldc 16, 2) := by decide +kernel
theorem dL_aborts_9 : decode cL_aborts 9 = .ok (.ireturn, 1) := by decide +kernel
theorem dL_snapshots_0 : decode cL_snapshots 0 = .ok (.aload_n 0, 1) := by decide +kernel
theorem dL_snapshots_1 : decode cL_snapshots 1 = .ok (.iload_n 1, 1) := by decide +kernel
theorem dL_snapshots_2 : decode cL_snapshots 2 = .ok (.iload_n 2, 1) := by decide +kernel
theorem dL_snapshots_3 : decode cL_snapshots 3 = .ok (.invokevirtual 31, 3) := by decide +kernel
theorem dL_snapshots_6 : decode cL_snapshots 6 = .ok (.ireturn, 1) := by decide +kernel
theorem dL_snapshots_7 : decode cL_snapshots 7 = .ok (.astore_n 3, 1) := by decide +kernel
theorem dL_snapshots_8 : decode cL_snapshots 8 = .ok (.ldc 16, 2) := by decide +kernel
theorem dL_snapshots_10 : decode cL_snapshots 10 = .ok (.ireturn, 1) := by decide +kernel
theorem dL_newestBelow_0 : decode cL_newestBelow 0 = .ok (.aload_n 0, 1) := by decide +kernel
theorem dL_newestBelow_1 : decode cL_newestBelow 1 = .ok (.iload_n 1, 1) := by decide +kernel
theorem dL_newestBelow_2 : decode cL_newestBelow 2 = .ok (.invokevirtual 34, 3) := by decide +kernel
theorem dL_newestBelow_5 : decode cL_newestBelow 5 = .ok (.istore_n 3, 1) := by decide +kernel
theorem dL_newestBelow_6 : decode cL_newestBelow 6 = .ok (.iconst (-1), 1) := by decide +kernel
theorem dL_newestBelow_7 : decode cL_newestBelow 7 = .ok (.istore 4, 2) := by decide +kernel
theorem dL_newestBelow_9 : decode cL_newestBelow 9 = .ok (.iconst 0, 1) := by decide +kernel
theorem dL_newestBelow_10 : decode cL_newestBelow 10 = .ok (.istore 5, 2) := by decide +kernel
theorem dL_newestBelow_12 : decode cL_newestBelow 12 = .ok (.iload 5, 2) := by decide +kernel
theorem dL_newestBelow_14 : decode cL_newestBelow 14 = .ok (.iload_n 3, 1) := by decide +kernel
theorem dL_newestBelow_15 : decode cL_newestBelow 15 = .ok (.if_icmp .ge 36, 3) := by decide +kernel
theorem dL_newestBelow_18 : decode cL_newestBelow 18 = .ok (.iload 5, 2) := by decide +kernel
theorem dL_newestBelow_20 : decode cL_newestBelow 20 = .ok (.bipush 41, 2) := by decide +kernel
theorem dL_newestBelow_22 : decode cL_newestBelow 22 = .ok (.if_icmp .ge 29, 3) := by decide +kernel
theorem dL_newestBelow_25 : decode cL_newestBelow 25 = .ok (.aload_n 0, 1) := by decide +kernel
theorem dL_newestBelow_26 : decode cL_newestBelow 26 = .ok (.iload_n 1, 1) := by decide +kernel
theorem dL_newestBelow_27 : decode cL_newestBelow 27 = .ok (.iload 5, 2) := by decide +kernel
theorem dL_newestBelow_29 : decode cL_newestBelow 29 = .ok (.invokevirtual 37, 3) := by decide +kernel
theorem dL_newestBelow_32 : decode cL_newestBelow 32 = .ok (.iload_n 2, 1) := by decide +kernel
theorem dL_newestBelow_33 : decode cL_newestBelow 33 = .ok (.if_icmp .ge 8, 3) := by decide +kernel
theorem dL_newestBelow_36 : decode cL_newestBelow 36 = .ok (.iload 5, 2) := by decide +kernel
theorem dL_newestBelow_38 : decode cL_newestBelow 38 = .ok (.goto 5, 3) := by decide +kernel
theorem dL_newestBelow_41 : decode cL_newestBelow 41 = .ok (.iload 4, 2) := by decide +kernel
theorem dL_newestBelow_43 : decode cL_newestBelow 43 = .ok (.istore 4, 2) := by decide +kernel
theorem dL_newestBelow_45 : decode cL_newestBelow 45 = .ok (.iinc 5 1, 3) := by decide +kernel
theorem dL_newestBelow_48 : decode cL_newestBelow 48 = .ok (.goto (-36), 3) := by decide +kernel
theorem dL_newestBelow_51 : decode cL_newestBelow 51 = .ok (.iload 4, 2) := by decide +kernel
theorem dL_newestBelow_53 : decode cL_newestBelow 53 = .ok (.ireturn, 1) := by decide +kernel
theorem dL_areVersions_0 : decode cL_areVersions 0 = .ok (.iconst 0, 1) := by decide +kernel
theorem dL_areVersions_1 : decode cL_areVersions 1 = .ok (.istore_n 1, 1) := by decide +kernel
theorem dL_areVersions_2 : decode cL_areVersions 2 = .ok (.iload_n 1, 1) := by decide +kernel
theorem dL_areVersions_3 : decode cL_areVersions 3 = .ok (.bipush 8, 2) := by decide +kernel
theorem dL_areVersions_5 : decode cL_areVersions 5 = .ok (.if_icmp .ge 100, 3) := by decide +kernel
theorem dL_areVersions_8 : decode cL_areVersions 8 = .ok (.aload_n 0, 1) := by decide +kernel
theorem dL_areVersions_9 : decode cL_areVersions 9 = .ok (.iload_n 1, 1) := by decide +kernel
theorem dL_areVersions_10 : decode cL_areVersions 10 = .ok (.invokevirtual 34, 3) := by decide +kernel
theorem dL_areVersions_13 : decode cL_areVersions 13 = .ok (.istore_n 2, 1) := by decide +kernel
theorem dL_areVersions_14 : decode cL_areVersions 14 = .ok (.iload_n 2, 1) := by decide +kernel
theorem dL_areVersions_15 : decode cL_areVersions 15 = .ok (.iconst 1, 1) := by decide +kernel
theorem dL_areVersions_16 : decode cL_areVersions 16 = .ok (.if_icmp .lt 27, 3) := by decide +kernel
theorem dL_areVersions_19 : decode cL_areVersions 19 = .ok (.iload_n 2, 1) := by decide +kernel
theorem dL_areVersions_20 : decode cL_areVersions 20 = .ok (.bipush 41, 2) := by decide +kernel
theorem dL_areVersions_22 : decode cL_areVersions 22 = .ok (.if_icmp .gt 21, 3) := by decide +kernel
theorem dL_areVersions_25 : decode cL_areVersions 25 = .ok (.aload_n 0, 1) := by decide +kernel
theorem dL_areVersions_26 : decode cL_areVersions 26 = .ok (.iload_n 1, 1) := by decide +kernel
theorem dL_areVersions_27 : decode cL_areVersions 27 = .ok (.iconst 0, 1) := by decide +kernel
theorem dL_areVersions_28 : decode cL_areVersions 28 = .ok (.invokevirtual 37, 3) := by decide +kernel
theorem dL_areVersions_31 : decode cL_areVersions 31 = .ok (.ifCond .ne 12, 3) := by decide +kernel
theorem dL_areVersions_34 : decode cL_areVersions 34 = .ok (.aload_n 0, 1) := by decide +kernel
theorem dL_areVersions_35 : decode cL_areVersions 35 = .ok (.iload_n 1, 1) := by decide +kernel
theorem dL_areVersions_36 : decode cL_areVersions 36 = .ok (.iconst 0, 1) := by decide +kernel
theorem dL_areVersions_37 : decode cL_areVersions 37 = .ok (.invokevirtual 40, 3) := by decide +kernel
theorem dL_areVersions_40 : decode cL_areVersions 40 = .ok (.ifCond .eq 5, 3) := by decide +kernel
theorem dL_areVersions_43 : decode cL_areVersions 43 = .ok (.iconst 0, 1) := by decide +kernel
theorem dL_areVersions_44 : decode cL_areVersions 44 = .ok (.ireturn, 1) := by decide +kernel
theorem dL_areVersions_45 : decode cL_areVersions 45 = .ok (.iconst (-1), 1) := by decide +kernel
theorem dL_areVersions_46 : decode cL_areVersions 46 = .ok (.istore_n 3, 1) := by decide +kernel
theorem dL_areVersions_47 : decode cL_areVersions 47 = .ok (.iconst 0, 1) := by decide +kernel
theorem dL_areVersions_48 : decode cL_areVersions 48 = .ok (.istore 4, 2) := by decide +kernel
theorem dL_areVersions_50 : decode cL_areVersions 50 = .ok (.iload 4, 2) := by decide +kernel
theorem dL_areVersions_52 : decode cL_areVersions 52 = .ok (.iload_n 2, 1) := by decide +kernel
theorem dL_areVersions_53 : decode cL_areVersions 53 = .ok (.if_icmp .ge 46, 3) := by decide +kernel
theorem dL_areVersions_56 : decode cL_areVersions 56 = .ok (.aload_n 0, 1) := by decide +kernel
theorem dL_areVersions_57 : decode cL_areVersions 57 = .ok (.iload_n 1, 1) := by decide +kernel
theorem dL_areVersions_58 : decode cL_areVersions 58 = .ok (.iload 4, 2) := by decide +kernel
theorem dL_areVersions_60 : decode cL_areVersions 60 = .ok (.invokevirtual 37, 3) := by decide +kernel
theorem dL_areVersions_63 : decode cL_areVersions 63 = .ok (.istore 5, 2) := by decide +kernel
theorem dL_areVersions_65 : decode cL_areVersions 65 = .ok (.iload 5, 2) := by decide +kernel
theorem dL_areVersions_67 : decode cL_areVersions 67 = .ok (.iload_n 3, 1) := by decide +kernel
theorem dL_areVersions_68 : decode cL_areVersions 68 = .ok (.if_icmp .le 20, 3) := by decide +kernel
theorem dL_areVersions_71 : decode cL_areVersions 71 = .ok (.aload_n 0, 1) := by decide +kernel
theorem dL_areVersions_72 : decode cL_areVersions 72 = .ok (.iload_n 1, 1) := by decide +kernel
theorem dL_areVersions_73 : decode cL_areVersions 73 = .ok (.iload 5, 2) := by decide +kernel
theorem dL_areVersions_75 : decode cL_areVersions 75 = .ok (.invokevirtual 40, 3) := by decide +kernel
theorem dL_areVersions_78 : decode cL_areVersions 78 = .ok (.aload_n 0, 1) := by decide +kernel
theorem dL_areVersions_79 : decode cL_areVersions 79 = .ok (.iload_n 1, 1) := by decide +kernel
theorem dL_areVersions_80 : decode cL_areVersions 80 = .ok (.iload 5, 2) := by decide +kernel
theorem dL_areVersions_82 : decode cL_areVersions 82 = .ok (.invokevirtual 43, 3) := by decide +kernel
theorem dL_areVersions_85 : decode cL_areVersions 85 = .ok (.if_icmp .eq 5, 3) := by decide +kernel
theorem dL_areVersions_88 : decode cL_areVersions 88 = .ok (.iconst 0, 1) := by decide +kernel
theorem dL_areVersions_89 : decode cL_areVersions 89 = .ok (.ireturn, 1) := by decide +kernel
theorem dL_areVersions_90 : decode cL_areVersions 90 = .ok (.iload 5, 2) := by decide +kernel
theorem dL_areVersions_92 : decode cL_areVersions 92 = .ok (.istore_n 3, 1) := by decide +kernel
theorem dL_areVersions_93 : decode cL_areVersions 93 = .ok (.iinc 4 1, 3) := by decide +kernel
theorem dL_areVersions_96 : decode cL_areVersions 96 = .ok (.goto (-46), 3) := by decide +kernel
theorem dL_areVersions_99 : decode cL_areVersions 99 = .ok (.iinc 1 1, 3) := by decide +kernel
theorem dL_areVersions_102 : decode cL_areVersions 102 = .ok (.goto (-100), 3) := by decide +kernel
theorem dL_areVersions_105 : decode cL_areVersions 105 = .ok (.iconst 1, 1) := by decide +kernel
theorem dL_areVersions_106 : decode cL_areVersions 106 = .ok (.ireturn, 1) := by decide +kernel
theorem dL_isOne_0 : decode cL_isOne 0 = .ok (.aload_n 0, 1) := by decide +kernel
theorem dL_isOne_1 : decode cL_isOne 1 = .ok (.iload_n 1, 1) := by decide +kernel
theorem dL_isOne_2 : decode cL_isOne 2 = .ok (.invokevirtual 46, 3) := by decide +kernel
theorem dL_isOne_5 : decode cL_isOne 5 = .ok (.istore_n 2, 1) := by decide +kernel
theorem dL_isOne_6 : decode cL_isOne 6 = .ok (.aload_n 0, 1) := by decide +kernel
theorem dL_isOne_7 : decode cL_isOne 7 = .ok (.iload_n 1, 1) := by decide +kernel
theorem dL_isOne_8 : decode cL_isOne 8 = .ok (.invokevirtual 49, 3) := by decide +kernel
theorem dL_isOne_11 : decode cL_isOne 11 = .ok (.istore_n 3, 1) := by decide +kernel
theorem dL_isOne_12 : decode cL_isOne 12 = .ok (.iload_n 2, 1) := by decide +kernel
theorem dL_isOne_13 : decode cL_isOne 13 = .ok (.iconst 1, 1) := by decide +kernel
theorem dL_isOne_14 : decode cL_isOne 14 = .ok (.if_icmp .eq 8, 3) := by decide +kernel
theorem dL_isOne_17 : decode cL_isOne 17 = .ok (.iload_n 2, 1) := by decide +kernel
theorem dL_isOne_18 : decode cL_isOne 18 = .ok (.iconst 2, 1) := by decide +kernel
theorem dL_isOne_19 : decode cL_isOne 19 = .ok (.if_icmp .ne 7, 3) := by decide +kernel
theorem dL_isOne_22 : decode cL_isOne 22 = .ok (.iconst 1, 1) := by decide +kernel
theorem dL_isOne_23 : decode cL_isOne 23 = .ok (.goto 4, 3) := by decide +kernel
theorem dL_isOne_26 : decode cL_isOne 26 = .ok (.iconst 0, 1) := by decide +kernel
theorem dL_isOne_27 : decode cL_isOne 27 = .ok (.istore 4, 2) := by decide +kernel
theorem dL_isOne_29 : decode cL_isOne 29 = .ok (.iload_n 3, 1) := by decide +kernel
theorem dL_isOne_30 : decode cL_isOne 30 = .ok (.ifCond .lt 7, 3) := by decide +kernel
theorem dL_isOne_33 : decode cL_isOne 33 = .ok (.iconst 1, 1) := by decide +kernel
theorem dL_isOne_34 : decode cL_isOne 34 = .ok (.goto 4, 3) := by decide +kernel
theorem dL_isOne_37 : decode cL_isOne 37 = .ok (.iconst 0, 1) := by decide +kernel
theorem dL_isOne_38 : decode cL_isOne 38 = .ok (.iload 4, 2) := by decide +kernel
theorem dL_isOne_40 : decode cL_isOne 40 = .ok (.if_icmp .ne 65, 3) := by decide +kernel
theorem dL_isOne_43 : decode cL_isOne 43 = .ok (.aload_n 0, 1) := by decide +kernel
theorem dL_isOne_44 : decode cL_isOne 44 = .ok (.iload_n 1, 1) := by decide +kernel
theorem dL_isOne_45 : decode cL_isOne 45 = .ok (.invokevirtual 52, 3) := by decide +kernel
theorem dL_isOne_48 : decode cL_isOne 48 = .ok (.ifCond .lt 7, 3) := by decide +kernel
theorem dL_isOne_51 : decode cL_isOne 51 = .ok (.iconst 1, 1) := by decide +kernel
theorem dL_isOne_52 : decode cL_isOne 52 = .ok (.goto 4, 3) := by decide +kernel
theorem dL_isOne_55 : decode cL_isOne 55 = .ok (.iconst 0, 1) := by decide +kernel
theorem dL_isOne_56 : decode cL_isOne 56 = .ok (.iload 4, 2) := by decide +kernel
theorem dL_isOne_58 : decode cL_isOne 58 = .ok (.if_icmp .ne 47, 3) := by decide +kernel
theorem dL_isOne_61 : decode cL_isOne 61 = .ok (.aload_n 0, 1) := by decide +kernel
theorem dL_isOne_62 : decode cL_isOne 62 = .ok (.iload_n 1, 1) := by decide +kernel
theorem dL_isOne_63 : decode cL_isOne 63 = .ok (.invokevirtual 55, 3) := by decide +kernel
theorem dL_isOne_66 : decode cL_isOne 66 = .ok (.ifCond .lt 7, 3) := by decide +kernel
theorem dL_isOne_69 : decode cL_isOne 69 = .ok (.iconst 1, 1) := by decide +kernel
theorem dL_isOne_70 : decode cL_isOne 70 = .ok (.goto 4, 3) := by decide +kernel
theorem dL_isOne_73 : decode cL_isOne 73 = .ok (.iconst 0, 1) := by decide +kernel
theorem dL_isOne_74 : decode cL_isOne 74 = .ok (.iload_n 2, 1) := by decide +kernel
theorem dL_isOne_75 : decode cL_isOne 75 = .ok (.iconst 2, 1) := by decide +kernel
theorem dL_isOne_76 : decode cL_isOne 76 = .ok (.if_icmp .ne 7, 3) := by decide +kernel
theorem dL_isOne_79 : decode cL_isOne 79 = .ok (.iconst 1, 1) := by decide +kernel
theorem dL_isOne_80 : decode cL_isOne 80 = .ok (.goto 4, 3) := by decide +kernel
theorem dL_isOne_83 : decode cL_isOne 83 = .ok (.iconst 0, 1) := by decide +kernel
theorem dL_isOne_84 : decode cL_isOne 84 = .ok (.if_icmp .ne 21, 3) := by decide +kernel
theorem dL_isOne_87 : decode cL_isOne 87 = .ok (.iload_n 2, 1) := by decide +kernel
theorem dL_isOne_88 : decode cL_isOne 88 = .ok (.iconst 2, 1) := by decide +kernel
theorem dL_isOne_89 : decode cL_isOne 89 = .ok (.if_icmp .ne 18, 3) := by decide +kernel
theorem dL_isOne_92 : decode cL_isOne 92 = .ok (.aload_n 0, 1) := by decide +kernel
theorem dL_isOne_93 : decode cL_isOne 93 = .ok (.iload_n 1, 1) := by decide +kernel
theorem dL_isOne_94 : decode cL_isOne 94 = .ok (.invokevirtual 55, 3) := by decide +kernel
theorem dL_isOne_97 : decode cL_isOne 97 = .ok (.aload_n 0, 1) := by decide +kernel
theorem dL_isOne_98 : decode cL_isOne 98 = .ok (.iload_n 1, 1) := by decide +kernel
theorem dL_isOne_99 : decode cL_isOne 99 = .ok (.invokevirtual 52, 3) := by decide +kernel
theorem dL_isOne_102 : decode cL_isOne 102 = .ok (.if_icmp .gt 5, 3) := by decide +kernel
theorem dL_isOne_105 : decode cL_isOne 105 = .ok (.iconst 0, 1) := by decide +kernel
theorem dL_isOne_106 : decode cL_isOne 106 = .ok (.ireturn, 1) := by decide +kernel
theorem dL_isOne_107 : decode cL_isOne 107 = .ok (.iconst 0, 1) := by decide +kernel
theorem dL_isOne_108 : decode cL_isOne 108 = .ok (.istore 5, 2) := by decide +kernel
theorem dL_isOne_110 : decode cL_isOne 110 = .ok (.iload 5, 2) := by decide +kernel
theorem dL_isOne_112 : decode cL_isOne 112 = .ok (.bipush 8, 2) := by decide +kernel
theorem dL_isOne_114 : decode cL_isOne 114 = .ok (.if_icmp .ge 130, 3) := by decide +kernel
theorem dL_isOne_117 : decode cL_isOne 117 = .ok (.iload 4, 2) := by decide +kernel
theorem dL_isOne_119 : decode cL_isOne 119 = .ok (.ifCond .eq 125, 3) := by decide +kernel
theorem dL_isOne_122 : decode cL_isOne 122 = .ok (.aload_n 0, 1) := by decide +kernel
theorem dL_isOne_123 : decode cL_isOne 123 = .ok (.iload_n 1, 1) := by decide +kernel
theorem dL_isOne_124 : decode cL_isOne 124 = .ok (.iload 5, 2) := by decide +kernel
theorem dL_isOne_126 : decode cL_isOne 126 = .ok (.invokevirtual 58, 3) := by decide +kernel
theorem dL_isOne_129 : decode cL_isOne 129 = .ok (.istore 6, 2) := by decide +kernel
theorem dL_isOne_131 : decode cL_isOne 131 = .ok (.aload_n 0, 1) := by decide +kernel
theorem dL_isOne_132 : decode cL_isOne 132 = .ok (.iload_n 1, 1) := by decide +kernel
theorem dL_isOne_133 : decode cL_isOne 133 = .ok (.iload 5, 2) := by decide +kernel
theorem dL_isOne_135 : decode cL_isOne 135 = .ok (.invokevirtual 61, 3) := by decide +kernel
theorem dL_isOne_138 : decode cL_isOne 138 = .ok (.istore 7, 2) := by decide +kernel
theorem dL_isOne_140 : decode cL_isOne 140 = .ok (.aload_n 0, 1) := by decide +kernel
theorem dL_isOne_141 : decode cL_isOne 141 = .ok (.iload 5, 2) := by decide +kernel
theorem dL_isOne_143 : decode cL_isOne 143 = .ok (.iload_n 3, 1) := by decide +kernel
theorem dL_isOne_144 : decode cL_isOne 144 = .ok (.invokestatic 64, 3) := by decide +kernel
theorem dL_isOne_147 : decode cL_isOne 147 = .ok (.istore 8, 2) := by decide +kernel
theorem dL_isOne_149 : decode cL_isOne 149 = .ok (.iload 6, 2) := by decide +kernel
theorem dL_isOne_151 : decode cL_isOne 151 = .ok (.ifCond .lt 18, 3) := by decide +kernel
theorem dL_isOne_154 : decode cL_isOne 154 = .ok (.aload_n 0, 1) := by decide +kernel
theorem dL_isOne_155 : decode cL_isOne 155 = .ok (.iload 5, 2) := by decide +kernel
theorem dL_isOne_157 : decode cL_isOne 157 = .ok (.iload 8, 2) := by decide +kernel
theorem dL_isOne_159 : decode cL_isOne 159 = .ok (.invokevirtual 37, 3) := by decide +kernel
theorem dL_isOne_162 : decode cL_isOne 162 = .ok (.iload 6, 2) := by decide +kernel
theorem dL_isOne_164 : decode cL_isOne 164 = .ok (.if_icmp .eq 5, 3) := by decide +kernel
theorem dL_isOne_167 : decode cL_isOne 167 = .ok (.iconst 0, 1) := by decide +kernel
theorem dL_isOne_168 : decode cL_isOne 168 = .ok (.ireturn, 1) := by decide +kernel
theorem dL_isOne_169 : decode cL_isOne 169 = .ok (.iload_n 2, 1) := by decide +kernel
theorem dL_isOne_170 : decode cL_isOne 170 = .ok (.iconst 2, 1) := by decide +kernel
theorem dL_isOne_171 : decode cL_isOne 171 = .ok (.if_icmp .ne 37, 3) := by decide +kernel
theorem dL_isOne_174 : decode cL_isOne 174 = .ok (.iload 7, 2) := by decide +kernel
theorem dL_isOne_176 : decode cL_isOne 176 = .ok (.ifCond .lt 15, 3) := by decide +kernel
theorem dL_isOne_179 : decode cL_isOne 179 = .ok (.aload_n 0, 1) := by decide +kernel
theorem dL_isOne_180 : decode cL_isOne 180 = .ok (.iload 5, 2) := by decide +kernel
theorem dL_isOne_182 : decode cL_isOne 182 = .ok (.iload_n 3, 1) := by decide +kernel
theorem dL_isOne_183 : decode cL_isOne 183 = .ok (.invokevirtual 40, 3) := by decide +kernel
theorem dL_isOne_186 : decode cL_isOne 186 = .ok (.iload 7, 2) := by decide +kernel
theorem dL_isOne_188 : decode cL_isOne 188 = .ok (.if_icmp .ne 18, 3) := by decide +kernel
theorem dL_isOne_191 : decode cL_isOne 191 = .ok (.iload 6, 2) := by decide +kernel
theorem dL_isOne_193 : decode cL_isOne 193 = .ok (.ifCond .lt 45, 3) := by decide +kernel
theorem dL_isOne_196 : decode cL_isOne 196 = .ok (.aload_n 0, 1) := by decide +kernel
theorem dL_isOne_197 : decode cL_isOne 197 = .ok (.iload 5, 2) := by decide +kernel
theorem dL_isOne_199 : decode cL_isOne 199 = .ok (.invokevirtual 70, 3) := by decide +kernel
theorem dL_isOne_202 : decode cL_isOne 202 = .ok (.iload_n 3, 1) := by decide +kernel
theorem dL_isOne_203 : decode cL_isOne 203 = .ok (.if_icmp .ge 35, 3) := by decide +kernel
theorem dL_isOne_206 : decode cL_isOne 206 = .ok (.iconst 0, 1) := by decide +kernel
theorem dL_isOne_207 : decode cL_isOne 207 = .ok (.ireturn, 1) := by decide +kernel
theorem dL_isOne_208 : decode cL_isOne 208 = .ok (.iload 7, 2) := by decide +kernel
theorem dL_isOne_210 : decode cL_isOne 210 = .ok (.ifCond .lt 28, 3) := by decide +kernel
theorem dL_isOne_213 : decode cL_isOne 213 = .ok (.aload_n 0, 1) := by decide +kernel
theorem dL_isOne_214 : decode cL_isOne 214 = .ok (.iload 5, 2) := by decide +kernel
theorem dL_isOne_216 : decode cL_isOne 216 = .ok (.invokevirtual 73, 3) := by decide +kernel
theorem dL_isOne_219 : decode cL_isOne 219 = .ok (.iload_n 1, 1) := by decide +kernel
theorem dL_isOne_220 : decode cL_isOne 220 = .ok (.if_icmp .ne 16, 3) := by decide +kernel
theorem dL_isOne_223 : decode cL_isOne 223 = .ok (.iload 8, 2) := by decide +kernel
theorem dL_isOne_225 : decode cL_isOne 225 = .ok (.aload_n 0, 1) := by decide +kernel
theorem dL_isOne_226 : decode cL_isOne 226 = .ok (.iload 5, 2) := by decide +kernel
theorem dL_isOne_228 : decode cL_isOne 228 = .ok (.invokevirtual 34, 3) := by decide +kernel
theorem dL_isOne_231 : decode cL_isOne 231 = .ok (.iconst 1, 1) := by decide +kernel
theorem dL_isOne_232 : decode cL_isOne 232 = .ok (.isub, 1) := by decide +kernel
theorem dL_isOne_233 : decode cL_isOne 233 = .ok (.if_icmp .eq 5, 3) := by decide +kernel
theorem dL_isOne_236 : decode cL_isOne 236 = .ok (.iconst 0, 1) := by decide +kernel
theorem dL_isOne_237 : decode cL_isOne 237 = .ok (.ireturn, 1) := by decide +kernel
theorem dL_isOne_238 : decode cL_isOne 238 = .ok (.iinc 5 1, 3) := by decide +kernel
theorem dL_isOne_241 : decode cL_isOne 241 = .ok (.goto (-131), 3) := by decide +kernel
theorem dL_isOne_244 : decode cL_isOne 244 = .ok (.iload_n 2, 1) := by decide +kernel
theorem dL_isOne_245 : decode cL_isOne 245 = .ok (.iconst 1, 1) := by decide +kernel
theorem dL_isOne_246 : decode cL_isOne 246 = .ok (.if_icmp .ne 19, 3) := by decide +kernel
theorem dL_isOne_249 : decode cL_isOne 249 = .ok (.aload_n 0, 1) := by decide +kernel
theorem dL_isOne_250 : decode cL_isOne 250 = .ok (.invokevirtual 76, 3) := by decide +kernel
theorem dL_isOne_253 : decode cL_isOne 253 = .ok (.iload_n 3, 1) := by decide +kernel
theorem dL_isOne_254 : decode cL_isOne 254 = .ok (.if_icmp .ge 15, 3) := by decide +kernel
theorem dL_isOne_257 : decode cL_isOne 257 = .ok (.aload_n 0, 1) := by decide +kernel
theorem dL_isOne_258 : decode cL_isOne 258 = .ok (.iload_n 1, 1) := by decide +kernel
theorem dL_isOne_259 : decode cL_isOne 259 = .ok (.invokevirtual 80, 3) := by decide +kernel
theorem dL_isOne_262 : decode cL_isOne 262 = .ok (.ifCond .eq 7, 3) := by decide +kernel
theorem dL_isOne_265 : decode cL_isOne 265 = .ok (.iconst 1, 1) := by decide +kernel
theorem dL_isOne_266 : decode cL_isOne 266 = .ok (.goto 4, 3) := by decide +kernel
theorem dL_isOne_269 : decode cL_isOne 269 = .ok (.iconst 0, 1) := by decide +kernel
theorem dL_isOne_270 : decode cL_isOne 270 = .ok (.ireturn, 1) := by decide +kernel
theorem dL_areAll_0 : decode cL_areAll 0 = .ok (.aload_n 0, 1) := by decide +kernel
theorem dL_areAll_1 : decode cL_areAll 1 = .ok (.invokevirtual 83, 3) := by decide +kernel
theorem dL_areAll_4 : decode cL_areAll 4 = .ok (.istore_n 1, 1) := by decide +kernel
theorem dL_areAll_5 : decode cL_areAll 5 = .ok (.iconst 0, 1) := by decide +kernel
theorem dL_areAll_6 : decode cL_areAll 6 = .ok (.istore_n 2, 1) := by decide +kernel
theorem dL_areAll_7 : decode cL_areAll 7 = .ok (.iconst 0, 1) := by decide +kernel
theorem dL_areAll_8 : decode cL_areAll 8 = .ok (.istore_n 3, 1) := by decide +kernel
theorem dL_areAll_9 : decode cL_areAll 9 = .ok (.iconst 0, 1) := by decide +kernel
theorem dL_areAll_10 : decode cL_areAll 10 = .ok (.istore 4, 2) := by decide +kernel
theorem dL_areAll_12 : decode cL_areAll 12 = .ok (.iload 4, 2) := by decide +kernel
theorem dL_areAll_14 : decode cL_areAll 14 = .ok (.iload_n 1, 1) := by decide +kernel
theorem dL_areAll_15 : decode cL_areAll 15 = .ok (.if_icmp .ge 75, 3) := by decide +kernel
theorem dL_areAll_18 : decode cL_areAll 18 = .ok (.iload 4, 2) := by decide +kernel
theorem dL_areAll_20 : decode cL_areAll 20 = .ok (.bipush 40, 2) := by decide +kernel
theorem dL_areAll_22 : decode cL_areAll 22 = .ok (.if_icmp .ge 68, 3) := by decide +kernel
theorem dL_areAll_25 : decode cL_areAll 25 = .ok (.aload_n 0, 1) := by decide +kernel
theorem dL_areAll_26 : decode cL_areAll 26 = .ok (.iload 4, 2) := by decide +kernel
theorem dL_areAll_28 : decode cL_areAll 28 = .ok (.invokestatic 86, 3) := by decide +kernel
theorem dL_areAll_31 : decode cL_areAll 31 = .ok (.ifCond .ne 5, 3) := by decide +kernel
theorem dL_areAll_34 : decode cL_areAll 34 = .ok (.iconst 0, 1) := by decide +kernel
theorem dL_areAll_35 : decode cL_areAll 35 = .ok (.ireturn, 1) := by decide +kernel
theorem dL_areAll_36 : decode cL_areAll 36 = .ok (.aload_n 0, 1) := by decide +kernel
theorem dL_areAll_37 : decode cL_areAll 37 = .ok (.iload 4, 2) := by decide +kernel
theorem dL_areAll_39 : decode cL_areAll 39 = .ok (.invokevirtual 46, 3) := by decide +kernel
theorem dL_areAll_42 : decode cL_areAll 42 = .ok (.istore 5, 2) := by decide +kernel
theorem dL_areAll_44 : decode cL_areAll 44 = .ok (.iload_n 2, 1) := by decide +kernel
theorem dL_areAll_45 : decode cL_areAll 45 = .ok (.iload 5, 2) := by decide +kernel
theorem dL_areAll_47 : decode cL_areAll 47 = .ok (.iconst 2, 1) := by decide +kernel
theorem dL_areAll_48 : decode cL_areAll 48 = .ok (.if_icmp .ne 19, 3) := by decide +kernel
theorem dL_areAll_51 : decode cL_areAll 51 = .ok (.aload_n 0, 1) := by decide +kernel
theorem dL_areAll_52 : decode cL_areAll 52 = .ok (.iload 4, 2) := by decide +kernel
theorem dL_areAll_54 : decode cL_areAll 54 = .ok (.invokevirtual 55, 3) := by decide +kernel
theorem dL_areAll_57 : decode cL_areAll 57 = .ok (.aload_n 0, 1) := by decide +kernel
theorem dL_areAll_58 : decode cL_areAll 58 = .ok (.iload 4, 2) := by decide +kernel
theorem dL_areAll_60 : decode cL_areAll 60 = .ok (.invokevirtual 52, 3) := by decide +kernel
theorem dL_areAll_63 : decode cL_areAll 63 = .ok (.isub, 1) := by decide +kernel
theorem dL_areAll_64 : decode cL_areAll 64 = .ok (.goto 4, 3) := by decide +kernel
theorem dL_areAll_67 : decode cL_areAll 67 = .ok (.iconst 0, 1) := by decide +kernel
theorem dL_areAll_68 : decode cL_areAll 68 = .ok (.iadd, 1) := by decide +kernel
theorem dL_areAll_69 : decode cL_areAll 69 = .ok (.istore_n 2, 1) := by decide +kernel
theorem dL_areAll_70 : decode cL_areAll 70 = .ok (.iload_n 3, 1) := by decide +kernel
theorem dL_areAll_71 : decode cL_areAll 71 = .ok (.iload 5, 2) := by decide +kernel
theorem dL_areAll_73 : decode cL_areAll 73 = .ok (.iconst 2, 1) := by decide +kernel
theorem dL_areAll_74 : decode cL_areAll 74 = .ok (.if_icmp .ne 7, 3) := by decide +kernel
theorem dL_areAll_77 : decode cL_areAll 77 = .ok (.iconst 1, 1) := by decide +kernel
theorem dL_areAll_78 : decode cL_areAll 78 = .ok (.goto 4, 3) := by decide +kernel
theorem dL_areAll_81 : decode cL_areAll 81 = .ok (.iconst 0, 1) := by decide +kernel
theorem dL_areAll_82 : decode cL_areAll 82 = .ok (.iadd, 1) := by decide +kernel
theorem dL_areAll_83 : decode cL_areAll 83 = .ok (.istore_n 3, 1) := by decide +kernel
theorem dL_areAll_84 : decode cL_areAll 84 = .ok (.iinc 4 1, 3) := by decide +kernel
theorem dL_areAll_87 : decode cL_areAll 87 = .ok (.goto (-75), 3) := by decide +kernel
theorem dL_areAll_90 : decode cL_areAll 90 = .ok (.aload_n 0, 1) := by decide +kernel
theorem dL_areAll_91 : decode cL_areAll 91 = .ok (.invokevirtual 90, 3) := by decide +kernel
theorem dL_areAll_94 : decode cL_areAll 94 = .ok (.ifCond .ne 7, 3) := by decide +kernel
theorem dL_areAll_97 : decode cL_areAll 97 = .ok (.iconst 1, 1) := by decide +kernel
theorem dL_areAll_98 : decode cL_areAll 98 = .ok (.goto 4, 3) := by decide +kernel
theorem dL_areAll_101 : decode cL_areAll 101 = .ok (.iconst 0, 1) := by decide +kernel
theorem dL_areAll_102 : decode cL_areAll 102 = .ok (.istore 4, 2) := by decide +kernel
theorem dL_areAll_104 : decode cL_areAll 104 = .ok (.aload_n 0, 1) := by decide +kernel
theorem dL_areAll_105 : decode cL_areAll 105 = .ok (.invokestatic 93, 3) := by decide +kernel
theorem dL_areAll_108 : decode cL_areAll 108 = .ok (.ifCond .eq 47, 3) := by decide +kernel
theorem dL_areAll_111 : decode cL_areAll 111 = .ok (.aload_n 0, 1) := by decide +kernel
theorem dL_areAll_112 : decode cL_areAll 112 = .ok (.invokevirtual 97, 3) := by decide +kernel
theorem dL_areAll_115 : decode cL_areAll 115 = .ok (.iload_n 2, 1) := by decide +kernel
theorem dL_areAll_116 : decode cL_areAll 116 = .ok (.if_icmp .ne 39, 3) := by decide +kernel
theorem dL_areAll_119 : decode cL_areAll 119 = .ok (.aload_n 0, 1) := by decide +kernel
theorem dL_areAll_120 : decode cL_areAll 120 = .ok (.iconst 2, 1) := by decide +kernel
theorem dL_areAll_121 : decode cL_areAll 121 = .ok (.invokevirtual 100, 3) := by decide +kernel
theorem dL_areAll_124 : decode cL_areAll 124 = .ok (.iload_n 3, 1) := by decide +kernel
theorem dL_areAll_125 : decode cL_areAll 125 = .ok (.if_icmp .ne 30, 3) := by decide +kernel
theorem dL_areAll_128 : decode cL_areAll 128 = .ok (.iload 4, 2) := by decide +kernel
theorem dL_areAll_130 : decode cL_areAll 130 = .ok (.ifCond .eq 10, 3) := by decide +kernel
theorem dL_areAll_133 : decode cL_areAll 133 = .ok (.aload_n 0, 1) := by decide +kernel
theorem dL_areAll_134 : decode cL_areAll 134 = .ok (.invokevirtual 103, 3) := by decide +kernel
theorem dL_areAll_137 : decode cL_areAll 137 = .ok (.ifCond .ne 18, 3) := by decide +kernel
theorem dL_areAll_140 : decode cL_areAll 140 = .ok (.aload_n 0, 1) := by decide +kernel
theorem dL_areAll_141 : decode cL_areAll 141 = .ok (.invokevirtual 106, 3) := by decide +kernel
theorem dL_areAll_144 : decode cL_areAll 144 = .ok (.aload_n 0, 1) := by decide +kernel
theorem dL_areAll_145 : decode cL_areAll 145 = .ok (.invokevirtual 76, 3) := by decide +kernel
theorem dL_areAll_148 : decode cL_areAll 148 = .ok (.if_icmp .gt 7, 3) := by decide +kernel
theorem dL_areAll_151 : decode cL_areAll 151 = .ok (.iconst 1, 1) := by decide +kernel
theorem dL_areAll_152 : decode cL_areAll 152 = .ok (.goto 4, 3) := by decide +kernel
theorem dL_areAll_155 : decode cL_areAll 155 = .ok (.iconst 0, 1) := by decide +kernel
theorem dL_areAll_156 : decode cL_areAll 156 = .ok (.ireturn, 1) := by decide +kernel
theorem dL_does_0 : decode cL_does 0 = .ok (.aload_n 0, 1) := by decide +kernel
theorem dL_does_1 : decode cL_does 1 = .ok (.invokevirtual 83, 3) := by decide +kernel
theorem dL_does_4 : decode cL_does 4 = .ok (.istore_n 2, 1) := by decide +kernel
theorem dL_does_5 : decode cL_does 5 = .ok (.iload_n 2, 1) := by decide +kernel
theorem dL_does_6 : decode cL_does 6 = .ok (.ifCond .ne 7, 3) := by decide +kernel
theorem dL_does_9 : decode cL_does 9 = .ok (.iconst 0, 1) := by decide +kernel
theorem dL_does_10 : decode cL_does 10 = .ok (.goto 43, 3) := by decide +kernel
theorem dL_does_13 : decode cL_does 13 = .ok (.iload_n 1, 1) := by decide +kernel
theorem dL_does_14 : decode cL_does 14 = .ok (.iconst 5, 1) := by decide +kernel
theorem dL_does_15 : decode cL_does 15 = .ok (.ishr, 1) := by decide +kernel
theorem dL_does_16 : decode cL_does 16 = .ok (.iconst 3, 1) := by decide +kernel
theorem dL_does_17 : decode cL_does 17 = .ok (.iand, 1) := by decide +kernel
theorem dL_does_18 : decode cL_does 18 = .ok (.ifCond .ne 14, 3) := by decide +kernel
theorem dL_does_21 : decode cL_does 21 = .ok (.iload_n 1, 1) := by decide +kernel
theorem dL_does_22 : decode cL_does 22 = .ok (.bipush 7, 2) := by decide +kernel
theorem dL_does_24 : decode cL_does 24 = .ok (.ishr, 1) := by decide +kernel
theorem dL_does_25 : decode cL_does 25 = .ok (.iload_n 2, 1) := by decide +kernel
theorem dL_does_26 : decode cL_does 26 = .ok (.invokestatic 109, 3) := by decide +kernel
theorem dL_does_29 : decode cL_does 29 = .ok (.goto 24, 3) := by decide +kernel
theorem dL_does_32 : decode cL_does 32 = .ok (.iload_n 2, 1) := by decide +kernel
theorem dL_does_33 : decode cL_does 33 = .ok (.iconst 1, 1) := by decide +kernel
theorem dL_does_34 : decode cL_does 34 = .ok (.isub, 1) := by decide +kernel
theorem dL_does_35 : decode cL_does 35 = .ok (.iload_n 1, 1) := by decide +kernel
theorem dL_does_36 : decode cL_does 36 = .ok (.bipush 7, 2) := by decide +kernel
theorem dL_does_38 : decode cL_does 38 = .ok (.ishr, 1) := by decide +kernel
theorem dL_does_39 : decode cL_does 39 = .ok (.iload_n 2, 1) := by decide +kernel
theorem dL_does_40 : decode cL_does 40 = .ok (.iconst 4, 1) := by decide +kernel
theorem dL_does_41 : decode cL_does 41 = .ok (.if_icmp .ge 7, 3) := by decide +kernel
theorem dL_does_44 : decode cL_does 44 = .ok (.iload_n 2, 1) := by decide +kernel
theorem dL_does_45 : decode cL_does 45 = .ok (.goto 4, 3) := by decide +kernel
theorem dL_does_48 : decode cL_does 48 = .ok (.iconst 4, 1) := by decide +kernel
theorem dL_does_49 : decode cL_does 49 = .ok (.invokestatic 109, 3) := by decide +kernel
theorem dL_does_52 : decode cL_does 52 = .ok (.isub, 1) := by decide +kernel
theorem dL_does_53 : decode cL_does 53 = .ok (.istore_n 3, 1) := by decide +kernel
theorem dL_does_54 : decode cL_does 54 = .ok (.iload_n 1, 1) := by decide +kernel
theorem dL_does_55 : decode cL_does 55 = .ok (.bipush 11, 2) := by decide +kernel
theorem dL_does_57 : decode cL_does 57 = .ok (.ishr, 1) := by decide +kernel
theorem dL_does_58 : decode cL_does 58 = .ok (.iconst 4, 1) := by decide +kernel
theorem dL_does_59 : decode cL_does 59 = .ok (.invokestatic 109, 3) := by decide +kernel
theorem dL_does_62 : decode cL_does 62 = .ok (.istore 4, 2) := by decide +kernel
theorem dL_does_64 : decode cL_does 64 = .ok (.iload_n 2, 1) := by decide +kernel
theorem dL_does_65 : decode cL_does 65 = .ok (.ifCond .le 15, 3) := by decide +kernel
theorem dL_does_68 : decode cL_does 68 = .ok (.aload_n 0, 1) := by decide +kernel
theorem dL_does_69 : decode cL_does 69 = .ok (.iload_n 3, 1) := by decide +kernel
theorem dL_does_70 : decode cL_does 70 = .ok (.invokevirtual 46, 3) := by decide +kernel
theorem dL_does_73 : decode cL_does 73 = .ok (.ifCond .ne 7, 3) := by decide +kernel
theorem dL_does_76 : decode cL_does 76 = .ok (.iconst 1, 1) := by decide +kernel
theorem dL_does_77 : decode cL_does 77 = .ok (.goto 4, 3) := by decide +kernel
theorem dL_does_80 : decode cL_does 80 = .ok (.iconst 0, 1) := by decide +kernel
theorem dL_does_81 : decode cL_does 81 = .ok (.istore 5, 2) := by decide +kernel
theorem dL_does_83 : decode cL_does 83 = .ok (.iload_n 1, 1) := by decide +kernel
theorem dL_does_84 : decode cL_does 84 = .ok (.bipush 20, 2) := by decide +kernel
theorem dL_does_86 : decode cL_does 86 = .ok (.invokestatic 109, 3) := by decide +kernel
theorem dL_does_89 : decode cL_does 89 = .ok (.istore 6, 2) := by decide +kernel
theorem dL_does_91 : decode cL_does 91 = .ok (.iload 6, 2) := by decide +kernel
theorem dL_does_93 : decode cL_does 93 = .ok (.iconst 4, 1) := by decide +kernel
theorem dL_does_94 : decode cL_does 94 = .ok (.if_icmp .lt 7, 3) := by decide +kernel
theorem dL_does_97 : decode cL_does 97 = .ok (.iload_n 2, 1) := by decide +kernel
theorem dL_does_98 : decode cL_does 98 = .ok (.ifCond .ne 35, 3) := by decide +kernel
theorem dL_does_101 : decode cL_does 101 = .ok (.aload_n 0, 1) := by decide +kernel
theorem dL_does_102 : decode cL_does 102 = .ok (.iload_n 1, 1) := by decide +kernel
theorem dL_does_103 : decode cL_does 103 = .ok (.iconst 5, 1) := by decide +kernel
theorem dL_does_104 : decode cL_does 104 = .ok (.ishr, 1) := by decide +kernel
theorem dL_does_105 : decode cL_does 105 = .ok (.iconst 3, 1) := by decide +kernel
theorem dL_does_106 : decode cL_does 106 = .ok (.invokestatic 109, 3) := by decide +kernel
theorem dL_does_109 : decode cL_does 109 = .ok (.invokestatic 112, 3) := by decide +kernel
theorem dL_does_112 : decode cL_does 112 = .ok (.iload_n 2, 1) := by decide +kernel
theorem dL_does_113 : decode cL_does 113 = .ok (.bipush 40, 2) := by decide +kernel
theorem dL_does_115 : decode cL_does 115 = .ok (.if_icmp .ne 8, 3) := by decide +kernel
theorem dL_does_118 : decode cL_does 118 = .ok (.ldc 16, 2) := by decide +kernel
theorem dL_does_120 : decode cL_does 120 = .ok (.goto 4, 3) := by decide +kernel
theorem dL_does_123 : decode cL_does 123 = .ok (.iload_n 2, 1) := by decide +kernel
theorem dL_does_124 : decode cL_does 124 = .ok (.if_icmp .ne 7, 3) := by decide +kernel
theorem dL_does_127 : decode cL_does 127 = .ok (.iconst 1, 1) := by decide +kernel
theorem dL_does_128 : decode cL_does 128 = .ok (.goto 4, 3) := by decide +kernel
theorem dL_does_131 : decode cL_does 131 = .ok (.iconst 0, 1) := by decide +kernel
theorem dL_does_132 : decode cL_does 132 = .ok (.ireturn, 1) := by decide +kernel
theorem dL_does_133 : decode cL_does 133 = .ok (.iload 6, 2) := by decide +kernel
theorem dL_does_135 : decode cL_does 135 = .ok (.bipush 8, 2) := by decide +kernel
theorem dL_does_137 : decode cL_does 137 = .ok (.if_icmp .ge 97, 3) := by decide +kernel
theorem dL_does_140 : decode cL_does 140 = .ok (.iload 5, 2) := by decide +kernel
theorem dL_does_142 : decode cL_does 142 = .ok (.ifCond .eq 13, 3) := by decide +kernel
theorem dL_does_145 : decode cL_does 145 = .ok (.aload_n 0, 1) := by decide +kernel
theorem dL_does_146 : decode cL_does 146 = .ok (.iload_n 3, 1) := by decide +kernel
theorem dL_does_147 : decode cL_does 147 = .ok (.iload 4, 2) := by decide +kernel
theorem dL_does_149 : decode cL_does 149 = .ok (.invokevirtual 61, 3) := by decide +kernel
theorem dL_does_152 : decode cL_does 152 = .ok (.goto 4, 3) := by decide +kernel
theorem dL_does_155 : decode cL_does 155 = .ok (.iconst 0, 1) := by decide +kernel
theorem dL_does_156 : decode cL_does 156 = .ok (.istore 7, 2) := by decide +kernel
theorem dL_does_158 : decode cL_does 158 = .ok (.iload 5, 2) := by decide +kernel
theorem dL_does_160 : decode cL_does 160 = .ok (.ifCond .eq 13, 3) := by decide +kernel
theorem dL_does_163 : decode cL_does 163 = .ok (.aload_n 0, 1) := by decide +kernel
theorem dL_does_164 : decode cL_does 164 = .ok (.iload_n 3, 1) := by decide +kernel
theorem dL_does_165 : decode cL_does 165 = .ok (.iload 4, 2) := by decide +kernel
theorem dL_does_167 : decode cL_does 167 = .ok (.invokevirtual 58, 3) := by decide +kernel
theorem dL_does_170 : decode cL_does 170 = .ok (.goto 4, 3) := by decide +kernel
theorem dL_does_173 : decode cL_does 173 = .ok (.iconst 0, 1) := by decide +kernel
theorem dL_does_174 : decode cL_does 174 = .ok (.istore 8, 2) := by decide +kernel
theorem dL_does_176 : decode cL_does 176 = .ok (.iload 5, 2) := by decide +kernel
theorem dL_does_178 : decode cL_does 178 = .ok (.ifCond .ne 8, 3) := by decide +kernel
theorem dL_does_181 : decode cL_does 181 = .ok (.ldc 16, 2) := by decide +kernel
theorem dL_does_183 : decode cL_does 183 = .ok (.goto 31, 3) := by decide +kernel
theorem dL_does_186 : decode cL_does 186 = .ok (.iload 7, 2) := by decide +kernel
theorem dL_does_188 : decode cL_does 188 = .ok (.ifCond .lt 8, 3) := by decide +kernel
theorem dL_does_191 : decode cL_does 191 = .ok (.iload 7, 2) := by decide +kernel
theorem dL_does_193 : decode cL_does 193 = .ok (.goto 21, 3) := by decide +kernel
theorem dL_does_196 : decode cL_does 196 = .ok (.aload_n 0, 1) := by decide +kernel
theorem dL_does_197 : decode cL_does 197 = .ok (.iload 4, 2) := by decide +kernel
theorem dL_does_199 : decode cL_does 199 = .ok (.iload 8, 2) := by decide +kernel
theorem dL_does_201 : decode cL_does 201 = .ok (.ifCond .lt 8, 3) := by decide +kernel
theorem dL_does_204 : decode cL_does 204 = .ok (.iload 8, 2) := by decide +kernel
theorem dL_does_206 : decode cL_does 206 = .ok (.goto 5, 3) := by decide +kernel
theorem dL_does_209 : decode cL_does 209 = .ok (.ldc 116, 2) := by decide +kernel
theorem dL_does_211 : decode cL_does 211 = .ok (.invokevirtual 40, 3) := by decide +kernel
theorem dL_does_214 : decode cL_does 214 = .ok (.istore 9, 2) := by decide +kernel
theorem dL_does_216 : decode cL_does 216 = .ok (.aload_n 0, 1) := by decide +kernel
theorem dL_does_217 : decode cL_does 217 = .ok (.iload_n 3, 1) := by decide +kernel
theorem dL_does_218 : decode cL_does 218 = .ok (.iload 4, 2) := by decide +kernel
theorem dL_does_220 : decode cL_does 220 = .ok (.invokestatic 117, 3) := by decide +kernel
theorem dL_does_223 : decode cL_does 223 = .ok (.iload 9, 2) := by decide +kernel
theorem dL_does_225 : decode cL_does 225 = .ok (.if_icmp .ne 7, 3) := by decide +kernel
theorem dL_does_228 : decode cL_does 228 = .ok (.iconst 1, 1) := by decide +kernel
theorem dL_does_229 : decode cL_does 229 = .ok (.goto 4, 3) := by decide +kernel
theorem dL_does_232 : decode cL_does 232 = .ok (.iconst 0, 1) := by decide +kernel
theorem dL_does_233 : decode cL_does 233 = .ok (.ireturn, 1) := by decide +kernel
theorem dL_does_234 : decode cL_does 234 = .ok (.iload 6, 2) := by decide +kernel
theorem dL_does_236 : decode cL_does 236 = .ok (.bipush 12, 2) := by decide +kernel
theorem dL_does_238 : decode cL_does 238 = .ok (.if_icmp .ge 73, 3) := by decide +kernel
theorem dL_does_241 : decode cL_does 241 = .ok (.aload_n 0, 1) := by decide +kernel
theorem dL_does_242 : decode cL_does 242 = .ok (.iload_n 3, 1) := by decide +kernel
theorem dL_does_243 : decode cL_does 243 = .ok (.iload 4, 2) := by decide +kernel
theorem dL_does_245 : decode cL_does 245 = .ok (.iload_n 1, 1) := by decide +kernel
theorem dL_does_246 : decode cL_does 246 = .ok (.bipush 13, 2) := by decide +kernel
theorem dL_does_248 : decode cL_does 248 = .ok (.ishr, 1) := by decide +kernel
theorem dL_does_249 : decode cL_does 249 = .ok (.sipush 10000, 3) := by decide +kernel
theorem dL_does_252 : decode cL_does 252 = .ok (.invokestatic 109, 3) := by decide +kernel
theorem dL_does_255 : decode cL_does 255 = .ok (.invokestatic 120, 3) := by decide +kernel
theorem dL_does_258 : decode cL_does 258 = .ok (.istore 7, 2) := by decide +kernel
theorem dL_does_260 : decode cL_does 260 = .ok (.iload 5, 2) := by decide +kernel
theorem dL_does_262 : decode cL_does 262 = .ok (.ifCond .eq 36, 3) := by decide +kernel
theorem dL_does_265 : decode cL_does 265 = .ok (.iload 7, 2) := by decide +kernel
theorem dL_does_267 : decode cL_does 267 = .ok (.ifCond .le 27, 3) := by decide +kernel
theorem dL_does_270 : decode cL_does 270 = .ok (.aload_n 0, 1) := by decide +kernel
theorem dL_does_271 : decode cL_does 271 = .ok (.iload_n 3, 1) := by decide +kernel
theorem dL_does_272 : decode cL_does 272 = .ok (.iload 4, 2) := by decide +kernel
theorem dL_does_274 : decode cL_does 274 = .ok (.invokevirtual 61, 3) := by decide +kernel
theorem dL_does_277 : decode cL_does 277 = .ok (.iload_n 1, 1) := by decide +kernel
theorem dL_does_278 : decode cL_does 278 = .ok (.bipush 13, 2) := by decide +kernel
theorem dL_does_280 : decode cL_does 280 = .ok (.ishr, 1) := by decide +kernel
theorem dL_does_281 : decode cL_does 281 = .ok (.sipush 10000, 3) := by decide +kernel
theorem dL_does_284 : decode cL_does 284 = .ok (.invokestatic 109, 3) := by decide +kernel
theorem dL_does_287 : decode cL_does 287 = .ok (.if_icmp .ne 7, 3) := by decide +kernel
theorem dL_does_290 : decode cL_does 290 = .ok (.iconst 1, 1) := by decide +kernel
theorem dL_does_291 : decode cL_does 291 = .ok (.goto 19, 3) := by decide +kernel
theorem dL_does_294 : decode cL_does 294 = .ok (.iconst 0, 1) := by decide +kernel
theorem dL_does_295 : decode cL_does 295 = .ok (.goto 15, 3) := by decide +kernel
theorem dL_does_298 : decode cL_does 298 = .ok (.iload 7, 2) := by decide +kernel
theorem dL_does_300 : decode cL_does 300 = .ok (.ldc 16, 2) := by decide +kernel
theorem dL_does_302 : decode cL_does 302 = .ok (.if_icmp .ne 7, 3) := by decide +kernel
theorem dL_does_305 : decode cL_does 305 = .ok (.iconst 1, 1) := by decide +kernel
theorem dL_does_306 : decode cL_does 306 = .ok (.goto 4, 3) := by decide +kernel
theorem dL_does_309 : decode cL_does 309 = .ok (.iconst 0, 1) := by decide +kernel
theorem dL_does_310 : decode cL_does 310 = .ok (.ireturn, 1) := by decide +kernel
theorem dL_does_311 : decode cL_does 311 = .ok (.iload 6, 2) := by decide +kernel
theorem dL_does_313 : decode cL_does 313 = .ok (.bipush 16, 2) := by decide +kernel
theorem dL_does_315 : decode cL_does 315 = .ok (.if_icmp .ge 98, 3) := by decide +kernel
theorem dL_does_318 : decode cL_does 318 = .ok (.aload_n 0, 1) := by decide +kernel
theorem dL_does_319 : decode cL_does 319 = .ok (.iload_n 3, 1) := by decide +kernel
theorem dL_does_320 : decode cL_does 320 = .ok (.invokevirtual 124, 3) := by decide +kernel
theorem dL_does_323 : decode cL_does 323 = .ok (.istore 7, 2) := by decide +kernel
theorem dL_does_325 : decode cL_does 325 = .ok (.aload_n 0, 1) := by decide +kernel
theorem dL_does_326 : decode cL_does 326 = .ok (.iload_n 3, 1) := by decide +kernel
theorem dL_does_327 : decode cL_does 327 = .ok (.invokestatic 127, 3) := by decide +kernel
theorem dL_does_330 : decode cL_does 330 = .ok (.istore 8, 2) := by decide +kernel
theorem dL_does_332 : decode cL_does 332 = .ok (.aload_n 0, 1) := by decide +kernel
theorem dL_does_333 : decode cL_does 333 = .ok (.iload_n 3, 1) := by decide +kernel
theorem dL_does_334 : decode cL_does 334 = .ok (.invokevirtual 46, 3) := by decide +kernel
theorem dL_does_337 : decode cL_does 337 = .ok (.istore 9, 2) := by decide +kernel
theorem dL_does_339 : decode cL_does 339 = .ok (.iload 5, 2) := by decide +kernel
theorem dL_does_341 : decode cL_does 341 = .ok (.ifCond .eq 53, 3) := by decide +kernel
theorem dL_does_344 : decode cL_does 344 = .ok (.iload 8, 2) := by decide +kernel
theorem dL_does_346 : decode cL_does 346 = .ok (.iload 7, 2) := by decide +kernel
theorem dL_does_348 : decode cL_does 348 = .ok (.if_icmp .ne 42, 3) := by decide +kernel
theorem dL_does_351 : decode cL_does 351 = .ok (.iload 9, 2) := by decide +kernel
theorem dL_does_353 : decode cL_does 353 = .ok (.iload 8, 2) := by decide +kernel
theorem dL_does_355 : decode cL_does 355 = .ok (.bipush (-2), 2) := by decide +kernel
theorem dL_does_357 : decode cL_does 357 = .ok (.if_icmp .ne 7, 3) := by decide +kernel
theorem dL_does_360 : decode cL_does 360 = .ok (.iconst 3, 1) := by decide +kernel
theorem dL_does_361 : decode cL_does 361 = .ok (.goto 15, 3) := by decide +kernel
theorem dL_does_364 : decode cL_does 364 = .ok (.iload 8, 2) := by decide +kernel
theorem dL_does_366 : decode cL_does 366 = .ok (.bipush (-3), 2) := by decide +kernel
theorem dL_does_368 : decode cL_does 368 = .ok (.if_icmp .ne 7, 3) := by decide +kernel
theorem dL_does_371 : decode cL_does 371 = .ok (.iconst 0, 1) := by decide +kernel
theorem dL_does_372 : decode cL_does 372 = .ok (.goto 4, 3) := by decide +kernel
theorem dL_does_375 : decode cL_does 375 = .ok (.iconst 1, 1) := by decide +kernel
theorem dL_does_376 : decode cL_does 376 = .ok (.if_icmp .ne 14, 3) := by decide +kernel
theorem dL_does_379 : decode cL_does 379 = .ok (.iload 8, 2) := by decide +kernel
theorem dL_does_381 : decode cL_does 381 = .ok (.bipush (-4), 2) := by decide +kernel
theorem dL_does_383 : decode cL_does 383 = .ok (.if_icmp .le 7, 3) := by decide +kernel
theorem dL_does_386 : decode cL_does 386 = .ok (.iconst 1, 1) := by decide +kernel
theorem dL_does_387 : decode cL_does 387 = .ok (.goto 25, 3) := by decide +kernel
theorem dL_does_390 : decode cL_does 390 = .ok (.iconst 0, 1) := by decide +kernel
theorem dL_does_391 : decode cL_does 391 = .ok (.goto 21, 3) := by decide +kernel
theorem dL_does_394 : decode cL_does 394 = .ok (.iload 8, 2) := by decide +kernel
theorem dL_does_396 : decode cL_does 396 = .ok (.ldc 16, 2) := by decide +kernel
theorem dL_does_398 : decode cL_does 398 = .ok (.if_icmp .ne 13, 3) := by decide +kernel
theorem dL_does_401 : decode cL_does 401 = .ok (.iload 7, 2) := by decide +kernel
theorem dL_does_403 : decode cL_does 403 = .ok (.iconst (-1), 1) := by decide +kernel
theorem dL_does_404 : decode cL_does 404 = .ok (.if_icmp .ne 7, 3) := by decide +kernel
theorem dL_does_407 : decode cL_does 407 = .ok (.iconst 1, 1) := by decide +kernel
theorem dL_does_408 : decode cL_does 408 = .ok (.goto 4, 3) := by decide +kernel
theorem dL_does_411 : decode cL_does 411 = .ok (.iconst 0, 1) := by decide +kernel
theorem dL_does_412 : decode cL_does 412 = .ok (.ireturn, 1) := by decide +kernel
theorem dL_does_413 : decode cL_does 413 = .ok (.iload 6, 2) := by decide +kernel
theorem dL_does_415 : decode cL_does 415 = .ok (.bipush 16, 2) := by decide +kernel
theorem dL_does_417 : decode cL_does 417 = .ok (.if_icmp .ne 50, 3) := by decide +kernel
theorem dL_does_420 : decode cL_does 420 = .ok (.aload_n 0, 1) := by decide +kernel
theorem dL_does_421 : decode cL_does 421 = .ok (.iload_n 3, 1) := by decide +kernel
theorem dL_does_422 : decode cL_does 422 = .ok (.invokestatic 130, 3) := by decide +kernel
theorem dL_does_425 : decode cL_does 425 = .ok (.istore 7, 2) := by decide +kernel
theorem dL_does_427 : decode cL_does 427 = .ok (.iload 5, 2) := by decide +kernel
theorem dL_does_429 : decode cL_does 429 = .ok (.ifCond .eq 25, 3) := by decide +kernel
theorem dL_does_432 : decode cL_does 432 = .ok (.iload 7, 2) := by decide +kernel
theorem dL_does_434 : decode cL_does 434 = .ok (.ifCond .lt 16, 3) := by decide +kernel
theorem dL_does_437 : decode cL_does 437 = .ok (.aload_n 0, 1) := by decide +kernel
theorem dL_does_438 : decode cL_does 438 = .ok (.iload_n 3, 1) := by decide +kernel
theorem dL_does_439 : decode cL_does 439 = .ok (.invokevirtual 46, 3) := by decide +kernel
theorem dL_does_442 : decode cL_does 442 = .ok (.iconst 3, 1) := by decide +kernel
theorem dL_does_443 : decode cL_does 443 = .ok (.if_icmp .ne 7, 3) := by decide +kernel
theorem dL_does_446 : decode cL_does 446 = .ok (.iconst 1, 1) := by decide +kernel
theorem dL_does_447 : decode cL_does 447 = .ok (.goto 19, 3) := by decide +kernel
theorem dL_does_450 : decode cL_does 450 = .ok (.iconst 0, 1) := by decide +kernel
theorem dL_does_451 : decode cL_does 451 = .ok (.goto 15, 3) := by decide +kernel
theorem dL_does_454 : decode cL_does 454 = .ok (.iload 7, 2) := by decide +kernel
theorem dL_does_456 : decode cL_does 456 = .ok (.ldc 16, 2) := by decide +kernel
theorem dL_does_458 : decode cL_does 458 = .ok (.if_icmp .ne 7, 3) := by decide +kernel
theorem dL_does_461 : decode cL_does 461 = .ok (.iconst 1, 1) := by decide +kernel
theorem dL_does_462 : decode cL_does 462 = .ok (.goto 4, 3) := by decide +kernel
theorem dL_does_465 : decode cL_does 465 = .ok (.iconst 0, 1) := by decide +kernel
theorem dL_does_466 : decode cL_does 466 = .ok (.ireturn, 1) := by decide +kernel
theorem dL_does_467 : decode cL_does 467 = .ok (.aload_n 0, 1) := by decide +kernel
theorem dL_does_468 : decode cL_does 468 = .ok (.invokevirtual 133, 3) := by decide +kernel
theorem dL_does_471 : decode cL_does 471 = .ok (.istore 7, 2) := by decide +kernel
theorem dL_does_473 : decode cL_does 473 = .ok (.iconst 1, 1) := by decide +kernel
theorem dL_does_474 : decode cL_does 474 = .ok (.iload_n 1, 1) := by decide +kernel
theorem dL_does_475 : decode cL_does 475 = .ok (.iconst 5, 1) := by decide +kernel
theorem dL_does_476 : decode cL_does 476 = .ok (.ishr, 1) := by decide +kernel
theorem dL_does_477 : decode cL_does 477 = .ok (.iload_n 1, 1) := by decide +kernel
theorem dL_does_478 : decode cL_does 478 = .ok (.bipush 9, 2) := by decide +kernel
theorem dL_does_480 : decode cL_does 480 = .ok (.ishr, 1) := by decide +kernel
theorem dL_does_481 : decode cL_does 481 = .ok (.iconst 1, 1) := by decide +kernel
theorem dL_does_482 : decode cL_does 482 = .ok (.iand, 1) := by decide +kernel
theorem dL_does_483 : decode cL_does 483 = .ok (.ifCond .ne 8, 3) := by decide +kernel
theorem dL_does_486 : decode cL_does 486 = .ok (.bipush 6, 2) := by decide +kernel
theorem dL_does_488 : decode cL_does 488 = .ok (.goto 5, 3) := by decide +kernel
theorem dL_does_491 : decode cL_does 491 = .ok (.bipush 30, 2) := by decide +kernel
theorem dL_does_493 : decode cL_does 493 = .ok (.invokestatic 109, 3) := by decide +kernel
theorem dL_does_496 : decode cL_does 496 = .ok (.iadd, 1) := by decide +kernel
theorem dL_does_497 : decode cL_does 497 = .ok (.istore 8, 2) := by decide +kernel
theorem dL_does_499 : decode cL_does 499 = .ok (.aload_n 0, 1) := by decide +kernel
theorem dL_does_500 : decode cL_does 500 = .ok (.iconst 2, 1) := by decide +kernel
theorem dL_does_501 : decode cL_does 501 = .ok (.invokevirtual 100, 3) := by decide +kernel
theorem dL_does_504 : decode cL_does 504 = .ok (.istore 9, 2) := by decide +kernel
theorem dL_does_506 : decode cL_does 506 = .ok (.aload_n 0, 1) := by decide +kernel
theorem dL_does_507 : decode cL_does 507 = .ok (.iload 8, 2) := by decide +kernel
theorem dL_does_509 : decode cL_does 509 = .ok (.invokevirtual 136, 3) := by decide +kernel
theorem dL_does_512 : decode cL_does 512 = .ok (.istore 10, 2) := by decide +kernel
theorem dL_does_514 : decode cL_does 514 = .ok (.aload_n 0, 1) := by decide +kernel
theorem dL_does_515 : decode cL_does 515 = .ok (.invokevirtual 133, 3) := by decide +kernel
theorem dL_does_518 : decode cL_does 518 = .ok (.iload 7, 2) := by decide +kernel
theorem dL_does_520 : decode cL_does 520 = .ok (.iload 8, 2) := by decide +kernel
theorem dL_does_522 : decode cL_does 522 = .ok (.iadd, 1) := by decide +kernel
theorem dL_does_523 : decode cL_does 523 = .ok (.if_icmp .ne 20, 3) := by decide +kernel
theorem dL_does_526 : decode cL_does 526 = .ok (.iload 10, 2) := by decide +kernel
theorem dL_does_528 : decode cL_does 528 = .ok (.aload_n 0, 1) := by decide +kernel
theorem dL_does_529 : decode cL_does 529 = .ok (.iconst 2, 1) := by decide +kernel
theorem dL_does_530 : decode cL_does 530 = .ok (.invokevirtual 100, 3) := by decide +kernel
theorem dL_does_533 : decode cL_does 533 = .ok (.iload 9, 2) := by decide +kernel
theorem dL_does_535 : decode cL_does 535 = .ok (.isub, 1) := by decide +kernel
theorem dL_does_536 : decode cL_does 536 = .ok (.if_icmp .ne 7, 3) := by decide +kernel
theorem dL_does_539 : decode cL_does 539 = .ok (.iconst 1, 1) := by decide +kernel
theorem dL_does_540 : decode cL_does 540 = .ok (.goto 4, 3) := by decide +kernel
theorem dL_does_543 : decode cL_does 543 = .ok (.iconst 0, 1) := by decide +kernel
theorem dL_does_544 : decode cL_does 544 = .ok (.ireturn, 1) := by decide +kernel
theorem dL_clocks_0 : decode cL_clocks 0 = .ok (.iload_n 1, 1) := by decide +kernel
theorem dL_clocks_1 : decode cL_clocks 1 = .ok (.iconst 4, 1) := by decide +kernel
theorem dL_clocks_2 : decode cL_clocks 2 = .ok (.ishr, 1) := by decide +kernel
theorem dL_clocks_3 : decode cL_clocks 3 = .ok (.iconst 3, 1) := by decide +kernel
theorem dL_clocks_4 : decode cL_clocks 4 = .ok (.invokestatic 109, 3) := by decide +kernel
theorem dL_clocks_7 : decode cL_clocks 7 = .ok (.istore_n 2, 1) := by decide +kernel
theorem dL_clocks_8 : decode cL_clocks 8 = .ok (.iload_n 1, 1) := by decide +kernel
theorem dL_clocks_9 : decode cL_clocks 9 = .ok (.bipush 15, 2) := by decide +kernel
theorem dL_clocks_11 : decode cL_clocks 11 = .ok (.iand, 1) := by decide +kernel
theorem dL_clocks_12 : decode cL_clocks 12 = .ok (.tableswitch 228 0 2 #[28, 86, 142], 28) := by decide +kernel
theorem dL_clocks_40 : decode cL_clocks 40 = .ok (.aload_n 0, 1) := by decide +kernel
theorem dL_clocks_41 : decode cL_clocks 41 = .ok (.iload_n 2, 1) := by decide +kernel
theorem dL_clocks_42 : decode cL_clocks 42 = .ok (.invokevirtual 139, 3) := by decide +kernel
theorem dL_clocks_45 : decode cL_clocks 45 = .ok (.istore_n 3, 1) := by decide +kernel
theorem dL_clocks_46 : decode cL_clocks 46 = .ok (.iload_n 1, 1) := by decide +kernel
theorem dL_clocks_47 : decode cL_clocks 47 = .ok (.bipush 6, 2) := by decide +kernel
theorem dL_clocks_49 : decode cL_clocks 49 = .ok (.ishr, 1) := by decide +kernel
theorem dL_clocks_50 : decode cL_clocks 50 = .ok (.bipush 13, 2) := by decide +kernel
theorem dL_clocks_52 : decode cL_clocks 52 = .ok (.invokestatic 109, 3) := by decide +kernel
theorem dL_clocks_55 : decode cL_clocks 55 = .ok (.bipush 6, 2) := by decide +kernel
theorem dL_clocks_57 : decode cL_clocks 57 = .ok (.isub, 1) := by decide +kernel
theorem dL_clocks_58 : decode cL_clocks 58 = .ok (.istore 4, 2) := by decide +kernel
theorem dL_clocks_60 : decode cL_clocks 60 = .ok (.aload_n 0, 1) := by decide +kernel
theorem dL_clocks_61 : decode cL_clocks 61 = .ok (.iload_n 2, 1) := by decide +kernel
theorem dL_clocks_62 : decode cL_clocks 62 = .ok (.iload 4, 2) := by decide +kernel
theorem dL_clocks_64 : decode cL_clocks 64 = .ok (.invokevirtual 142, 3) := by decide +kernel
theorem dL_clocks_67 : decode cL_clocks 67 = .ok (.aload_n 0, 1) := by decide +kernel
theorem dL_clocks_68 : decode cL_clocks 68 = .ok (.iload_n 2, 1) := by decide +kernel
theorem dL_clocks_69 : decode cL_clocks 69 = .ok (.invokevirtual 139, 3) := by decide +kernel
theorem dL_clocks_72 : decode cL_clocks 72 = .ok (.iload_n 3, 1) := by decide +kernel
theorem dL_clocks_73 : decode cL_clocks 73 = .ok (.isub, 1) := by decide +kernel
theorem dL_clocks_74 : decode cL_clocks 74 = .ok (.if_icmp .ne 22, 3) := by decide +kernel
theorem dL_clocks_77 : decode cL_clocks 77 = .ok (.aload_n 0, 1) := by decide +kernel
theorem dL_clocks_78 : decode cL_clocks 78 = .ok (.iload_n 2, 1) := by decide +kernel
theorem dL_clocks_79 : decode cL_clocks 79 = .ok (.invokevirtual 139, 3) := by decide +kernel
theorem dL_clocks_82 : decode cL_clocks 82 = .ok (.aload_n 0, 1) := by decide +kernel
theorem dL_clocks_83 : decode cL_clocks 83 = .ok (.invokevirtual 133, 3) := by decide +kernel
theorem dL_clocks_86 : decode cL_clocks 86 = .ok (.iload 4, 2) := by decide +kernel
theorem dL_clocks_88 : decode cL_clocks 88 = .ok (.iadd, 1) := by decide +kernel
theorem dL_clocks_89 : decode cL_clocks 89 = .ok (.if_icmp .ne 7, 3) := by decide +kernel
theorem dL_clocks_92 : decode cL_clocks 92 = .ok (.iconst 1, 1) := by decide +kernel
theorem dL_clocks_93 : decode cL_clocks 93 = .ok (.goto 4, 3) := by decide +kernel
theorem dL_clocks_96 : decode cL_clocks 96 = .ok (.iconst 0, 1) := by decide +kernel
theorem dL_clocks_97 : decode cL_clocks 97 = .ok (.ireturn, 1) := by decide +kernel
theorem dL_clocks_98 : decode cL_clocks 98 = .ok (.aload_n 0, 1) := by decide +kernel
theorem dL_clocks_99 : decode cL_clocks 99 = .ok (.iload_n 2, 1) := by decide +kernel
theorem dL_clocks_100 : decode cL_clocks 100 = .ok (.invokevirtual 139, 3) := by decide +kernel
theorem dL_clocks_103 : decode cL_clocks 103 = .ok (.istore 5, 2) := by decide +kernel
theorem dL_clocks_105 : decode cL_clocks 105 = .ok (.aload_n 0, 1) := by decide +kernel
theorem dL_clocks_106 : decode cL_clocks 106 = .ok (.iload_n 2, 1) := by decide +kernel
theorem dL_clocks_107 : decode cL_clocks 107 = .ok (.iload_n 1, 1) := by decide +kernel
theorem dL_clocks_108 : decode cL_clocks 108 = .ok (.bipush 6, 2) := by decide +kernel
theorem dL_clocks_110 : decode cL_clocks 110 = .ok (.ishr, 1) := by decide +kernel
theorem dL_clocks_111 : decode cL_clocks 111 = .ok (.bipush 101, 2) := by decide +kernel
theorem dL_clocks_113 : decode cL_clocks 113 = .ok (.invokestatic 109, 3) := by decide +kernel
theorem dL_clocks_116 : decode cL_clocks 116 = .ok (.bipush 50, 2) := by decide +kernel
theorem dL_clocks_118 : decode cL_clocks 118 = .ok (.isub, 1) := by decide +kernel
theorem dL_clocks_119 : decode cL_clocks 119 = .ok (.invokevirtual 145, 3) := by decide +kernel
theorem dL_clocks_122 : decode cL_clocks 122 = .ok (.istore 6, 2) := by decide +kernel
theorem dL_clocks_124 : decode cL_clocks 124 = .ok (.iload 6, 2) := by decide +kernel
theorem dL_clocks_126 : decode cL_clocks 126 = .ok (.bipush (-100), 2) := by decide +kernel
theorem dL_clocks_128 : decode cL_clocks 128 = .ok (.if_icmp .lt 24, 3) := by decide +kernel
theorem dL_clocks_131 : decode cL_clocks 131 = .ok (.iload 6, 2) := by decide +kernel
theorem dL_clocks_133 : decode cL_clocks 133 = .ok (.bipush 100, 2) := by decide +kernel
theorem dL_clocks_135 : decode cL_clocks 135 = .ok (.if_icmp .gt 17, 3) := by decide +kernel
theorem dL_clocks_138 : decode cL_clocks 138 = .ok (.aload_n 0, 1) := by decide +kernel
theorem dL_clocks_139 : decode cL_clocks 139 = .ok (.iload_n 2, 1) := by decide +kernel
theorem dL_clocks_140 : decode cL_clocks 140 = .ok (.invokevirtual 139, 3) := by decide +kernel
theorem dL_clocks_143 : decode cL_clocks 143 = .ok (.iload 5, 2) := by decide +kernel
theorem dL_clocks_145 : decode cL_clocks 145 = .ok (.if_icmp .ne 7, 3) := by decide +kernel
theorem dL_clocks_148 : decode cL_clocks 148 = .ok (.iconst 1, 1) := by decide +kernel
theorem dL_clocks_149 : decode cL_clocks 149 = .ok (.goto 4, 3) := by decide +kernel
theorem dL_clocks_152 : decode cL_clocks 152 = .ok (.iconst 0, 1) := by decide +kernel
theorem dL_clocks_153 : decode cL_clocks 153 = .ok (.ireturn, 1) := by decide +kernel
theorem dL_clocks_154 : decode cL_clocks 154 = .ok (.aload_n 0, 1) := by decide +kernel
theorem dL_clocks_155 : decode cL_clocks 155 = .ok (.iload_n 2, 1) := by decide +kernel
theorem dL_clocks_156 : decode cL_clocks 156 = .ok (.iload_n 1, 1) := by decide +kernel
theorem dL_clocks_157 : decode cL_clocks 157 = .ok (.bipush 6, 2) := by decide +kernel
theorem dL_clocks_159 : decode cL_clocks 159 = .ok (.ishr, 1) := by decide +kernel
theorem dL_clocks_160 : decode cL_clocks 160 = .ok (.bipush 20, 2) := by decide +kernel
theorem dL_clocks_162 : decode cL_clocks 162 = .ok (.invokestatic 109, 3) := by decide +kernel
theorem dL_clocks_165 : decode cL_clocks 165 = .ok (.iload_n 1, 1) := by decide +kernel
theorem dL_clocks_166 : decode cL_clocks 166 = .ok (.bipush 11, 2) := by decide +kernel
theorem dL_clocks_168 : decode cL_clocks 168 = .ok (.ishr, 1) := by decide +kernel
theorem dL_clocks_169 : decode cL_clocks 169 = .ok (.bipush 20, 2) := by decide +kernel
theorem dL_clocks_171 : decode cL_clocks 171 = .ok (.invokestatic 109, 3) := by decide +kernel
theorem dL_clocks_174 : decode cL_clocks 174 = .ok (.invokevirtual 148, 3) := by decide +kernel
theorem dL_clocks_177 : decode cL_clocks 177 = .ok (.istore 7, 2) := by decide +kernel
theorem dL_clocks_179 : decode cL_clocks 179 = .ok (.aload_n 0, 1) := by decide +kernel
theorem dL_clocks_180 : decode cL_clocks 180 = .ok (.iload_n 2, 1) := by decide +kernel
theorem dL_clocks_181 : decode cL_clocks 181 = .ok (.invokevirtual 151, 3) := by decide +kernel
theorem dL_clocks_184 : decode cL_clocks 184 = .ok (.aload_n 0, 1) := by decide +kernel
theorem dL_clocks_185 : decode cL_clocks 185 = .ok (.iload_n 2, 1) := by decide +kernel
theorem dL_clocks_186 : decode cL_clocks 186 = .ok (.invokevirtual 154, 3) := by decide +kernel
theorem dL_clocks_189 : decode cL_clocks 189 = .ok (.isub, 1) := by decide +kernel
theorem dL_clocks_190 : decode cL_clocks 190 = .ok (.iconst 2, 1) := by decide +kernel
theorem dL_clocks_191 : decode cL_clocks 191 = .ok (.iload 7, 2) := by decide +kernel
theorem dL_clocks_193 : decode cL_clocks 193 = .ok (.imul, 1) := by decide +kernel
theorem dL_clocks_194 : decode cL_clocks 194 = .ok (.if_icmp .ne 44, 3) := by decide +kernel
theorem dL_clocks_197 : decode cL_clocks 197 = .ok (.aload_n 0, 1) := by decide +kernel
theorem dL_clocks_198 : decode cL_clocks 198 = .ok (.iload_n 2, 1) := by decide +kernel
theorem dL_clocks_199 : decode cL_clocks 199 = .ok (.invokevirtual 157, 3) := by decide +kernel
theorem dL_clocks_202 : decode cL_clocks 202 = .ok (.aload_n 0, 1) := by decide +kernel
theorem dL_clocks_203 : decode cL_clocks 203 = .ok (.iload_n 2, 1) := by decide +kernel
theorem dL_clocks_204 : decode cL_clocks 204 = .ok (.invokevirtual 154, 3) := by decide +kernel
theorem dL_clocks_207 : decode cL_clocks 207 = .ok (.aload_n 0, 1) := by decide +kernel
theorem dL_clocks_208 : decode cL_clocks 208 = .ok (.invokevirtual 133, 3) := by decide +kernel
theorem dL_clocks_211 : decode cL_clocks 211 = .ok (.if_icmp .gt 19, 3) := by decide +kernel
theorem dL_clocks_214 : decode cL_clocks 214 = .ok (.aload_n 0, 1) := by decide +kernel
theorem dL_clocks_215 : decode cL_clocks 215 = .ok (.iload_n 2, 1) := by decide +kernel
theorem dL_clocks_216 : decode cL_clocks 216 = .ok (.invokevirtual 151, 3) := by decide +kernel
theorem dL_clocks_219 : decode cL_clocks 219 = .ok (.aload_n 0, 1) := by decide +kernel
theorem dL_clocks_220 : decode cL_clocks 220 = .ok (.invokevirtual 133, 3) := by decide +kernel
theorem dL_clocks_223 : decode cL_clocks 223 = .ok (.if_icmp .lt 7, 3) := by decide +kernel
theorem dL_clocks_226 : decode cL_clocks 226 = .ok (.iconst 1, 1) := by decide +kernel
theorem dL_clocks_227 : decode cL_clocks 227 = .ok (.goto 4, 3) := by decide +kernel
theorem dL_clocks_230 : decode cL_clocks 230 = .ok (.iconst 0, 1) := by decide +kernel
theorem dL_clocks_231 : decode cL_clocks 231 = .ok (.if_icmp .ne 7, 3) := by decide +kernel
theorem dL_clocks_234 : decode cL_clocks 234 = .ok (.iconst 1, 1) := by decide +kernel
theorem dL_clocks_235 : decode cL_clocks 235 = .ok (.goto 4, 3) := by decide +kernel
theorem dL_clocks_238 : decode cL_clocks 238 = .ok (.iconst 0, 1) := by decide +kernel
theorem dL_clocks_239 : decode cL_clocks 239 = .ok (.ireturn, 1) := by decide +kernel
theorem dL_clocks_240 : decode cL_clocks 240 = .ok (.iconst 1, 1) := by decide +kernel
theorem dL_clocks_241 : decode cL_clocks 241 = .ok (.ireturn, 1) := by decide +kernel
theorem dL_isRead_0 : decode cL_isRead 0 = .ok (.iload_n 2, 1) := by decide +kernel
theorem dL_isRead_1 : decode cL_isRead 1 = .ok (.bipush 8, 2) := by decide +kernel
theorem dL_isRead_3 : decode cL_isRead 3 = .ok (.invokestatic 109, 3) := by decide +kernel
theorem dL_isRead_6 : decode cL_isRead 6 = .ok (.istore_n 3, 1) := by decide +kernel
theorem dL_isRead_7 : decode cL_isRead 7 = .ok (.aload_n 0, 1) := by decide +kernel
theorem dL_isRead_8 : decode cL_isRead 8 = .ok (.invokevirtual 76, 3) := by decide +kernel
theorem dL_isRead_11 : decode cL_isRead 11 = .ok (.istore 4, 2) := by decide +kernel
theorem dL_isRead_13 : decode cL_isRead 13 = .ok (.aload_n 0, 1) := by decide +kernel
theorem dL_isRead_14 : decode cL_isRead 14 = .ok (.invokevirtual 106, 3) := by decide +kernel
theorem dL_isRead_17 : decode cL_isRead 17 = .ok (.istore 5, 2) := by decide +kernel
theorem dL_isRead_19 : decode cL_isRead 19 = .ok (.aload_n 0, 1) := by decide +kernel
theorem dL_isRead_20 : decode cL_isRead 20 = .ok (.iload_n 3, 1) := by decide +kernel
theorem dL_isRead_21 : decode cL_isRead 21 = .ok (.iload 4, 2) := by decide +kernel
theorem dL_isRead_23 : decode cL_isRead 23 = .ok (.iconst 1, 1) := by decide +kernel
theorem dL_isRead_24 : decode cL_isRead 24 = .ok (.iadd, 1) := by decide +kernel
theorem dL_isRead_25 : decode cL_isRead 25 = .ok (.invokestatic 161, 3) := by decide +kernel
theorem dL_isRead_28 : decode cL_isRead 28 = .ok (.ldc 16, 2) := by decide +kernel
theorem dL_isRead_30 : decode cL_isRead 30 = .ok (.if_icmp .ne 35, 3) := by decide +kernel
theorem dL_isRead_33 : decode cL_isRead 33 = .ok (.aload_n 0, 1) := by decide +kernel
theorem dL_isRead_34 : decode cL_isRead 34 = .ok (.iload 4, 2) := by decide +kernel
theorem dL_isRead_36 : decode cL_isRead 36 = .ok (.ifCond .ge 7, 3) := by decide +kernel
theorem dL_isRead_39 : decode cL_isRead 39 = .ok (.iconst 0, 1) := by decide +kernel
theorem dL_isRead_40 : decode cL_isRead 40 = .ok (.goto 5, 3) := by decide +kernel
theorem dL_isRead_43 : decode cL_isRead 43 = .ok (.iload 4, 2) := by decide +kernel
theorem dL_isRead_45 : decode cL_isRead 45 = .ok (.invokevirtual 164, 3) := by decide +kernel
theorem dL_isRead_48 : decode cL_isRead 48 = .ok (.iload 4, 2) := by decide +kernel
theorem dL_isRead_50 : decode cL_isRead 50 = .ok (.ifCond .ge 11, 3) := by decide +kernel
theorem dL_isRead_53 : decode cL_isRead 53 = .ok (.aload_n 0, 1) := by decide +kernel
theorem dL_isRead_54 : decode cL_isRead 54 = .ok (.iconst 0, 1) := by decide +kernel
theorem dL_isRead_55 : decode cL_isRead 55 = .ok (.invokevirtual 164, 3) := by decide +kernel
theorem dL_isRead_58 : decode cL_isRead 58 = .ok (.goto 4, 3) := by decide +kernel
theorem dL_isRead_61 : decode cL_isRead 61 = .ok (.iconst 0, 1) := by decide +kernel
theorem dL_isRead_62 : decode cL_isRead 62 = .ok (.if_icmp .eq 5, 3) := by decide +kernel
theorem dL_isRead_65 : decode cL_isRead 65 = .ok (.iconst 0, 1) := by decide +kernel
theorem dL_isRead_66 : decode cL_isRead 66 = .ok (.ireturn, 1) := by decide +kernel
theorem dL_isRead_67 : decode cL_isRead 67 = .ok (.iload 4, 2) := by decide +kernel
theorem dL_isRead_69 : decode cL_isRead 69 = .ok (.ifCond .ge 5, 3) := by decide +kernel
theorem dL_isRead_72 : decode cL_isRead 72 = .ok (.iconst 1, 1) := by decide +kernel
theorem dL_isRead_73 : decode cL_isRead 73 = .ok (.ireturn, 1) := by decide +kernel
theorem dL_isRead_74 : decode cL_isRead 74 = .ok (.iload 4, 2) := by decide +kernel
theorem dL_isRead_76 : decode cL_isRead 76 = .ok (.iload_n 2, 1) := by decide +kernel
theorem dL_isRead_77 : decode cL_isRead 77 = .ok (.iconst 3, 1) := by decide +kernel
theorem dL_isRead_78 : decode cL_isRead 78 = .ok (.ishr, 1) := by decide +kernel
theorem dL_isRead_79 : decode cL_isRead 79 = .ok (.iload 4, 2) := by decide +kernel
theorem dL_isRead_81 : decode cL_isRead 81 = .ok (.bipush 9, 2) := by decide +kernel
theorem dL_isRead_83 : decode cL_isRead 83 = .ok (.if_icmp .ge 10, 3) := by decide +kernel
theorem dL_isRead_86 : decode cL_isRead 86 = .ok (.iload 4, 2) := by decide +kernel
theorem dL_isRead_88 : decode cL_isRead 88 = .ok (.iconst 1, 1) := by decide +kernel
theorem dL_isRead_89 : decode cL_isRead 89 = .ok (.iadd, 1) := by decide +kernel
theorem dL_isRead_90 : decode cL_isRead 90 = .ok (.goto 5, 3) := by decide +kernel
theorem dL_isRead_93 : decode cL_isRead 93 = .ok (.bipush 9, 2) := by decide +kernel
theorem dL_isRead_95 : decode cL_isRead 95 = .ok (.invokestatic 109, 3) := by decide +kernel
theorem dL_isRead_98 : decode cL_isRead 98 = .ok (.isub, 1) := by decide +kernel
theorem dL_isRead_99 : decode cL_isRead 99 = .ok (.istore 6, 2) := by decide +kernel
theorem dL_isRead_101 : decode cL_isRead 101 = .ok (.aload_n 0, 1) := by decide +kernel
theorem dL_isRead_102 : decode cL_isRead 102 = .ok (.iload_n 3, 1) := by decide +kernel
theorem dL_isRead_103 : decode cL_isRead 103 = .ok (.iload 6, 2) := by decide +kernel
theorem dL_isRead_105 : decode cL_isRead 105 = .ok (.invokevirtual 40, 3) := by decide +kernel
theorem dL_isRead_108 : decode cL_isRead 108 = .ok (.istore 7, 2) := by decide +kernel
theorem dL_isRead_110 : decode cL_isRead 110 = .ok (.aload_n 1, 1) := by decide +kernel
theorem dL_isRead_111 : decode cL_isRead 111 = .ok (.iconst 0, 1) := by decide +kernel
theorem dL_isRead_112 : decode cL_isRead 112 = .ok (.iload_n 3, 1) := by decide +kernel
theorem dL_isRead_113 : decode cL_isRead 113 = .ok (.iastore, 1) := by decide +kernel
theorem dL_isRead_114 : decode cL_isRead 114 = .ok (.aload_n 1, 1) := by decide +kernel
theorem dL_isRead_115 : decode cL_isRead 115 = .ok (.iconst 1, 1) := by decide +kernel
theorem dL_isRead_116 : decode cL_isRead 116 = .ok (.iload 6, 2) := by decide +kernel
theorem dL_isRead_118 : decode cL_isRead 118 = .ok (.iastore, 1) := by decide +kernel
theorem dL_isRead_119 : decode cL_isRead 119 = .ok (.aload_n 1, 1) := by decide +kernel
theorem dL_isRead_120 : decode cL_isRead 120 = .ok (.iconst 2, 1) := by decide +kernel
theorem dL_isRead_121 : decode cL_isRead 121 = .ok (.iload 7, 2) := by decide +kernel
theorem dL_isRead_123 : decode cL_isRead 123 = .ok (.iastore, 1) := by decide +kernel
theorem dL_isRead_124 : decode cL_isRead 124 = .ok (.aload_n 0, 1) := by decide +kernel
theorem dL_isRead_125 : decode cL_isRead 125 = .ok (.iload_n 3, 1) := by decide +kernel
theorem dL_isRead_126 : decode cL_isRead 126 = .ok (.iload 6, 2) := by decide +kernel
theorem dL_isRead_128 : decode cL_isRead 128 = .ok (.invokestatic 161, 3) := by decide +kernel
theorem dL_isRead_131 : decode cL_isRead 131 = .ok (.iload 7, 2) := by decide +kernel
theorem dL_isRead_133 : decode cL_isRead 133 = .ok (.if_icmp .ne 28, 3) := by decide +kernel
theorem dL_isRead_136 : decode cL_isRead 136 = .ok (.aload_n 0, 1) := by decide +kernel
theorem dL_isRead_137 : decode cL_isRead 137 = .ok (.invokevirtual 106, 3) := by decide +kernel
theorem dL_isRead_140 : decode cL_isRead 140 = .ok (.iload 5, 2) := by decide +kernel
theorem dL_isRead_142 : decode cL_isRead 142 = .ok (.iload 6, 2) := by decide +kernel
theorem dL_isRead_144 : decode cL_isRead 144 = .ok (.if_icmp .ge 8, 3) := by decide +kernel
theorem dL_isRead_147 : decode cL_isRead 147 = .ok (.iload 6, 2) := by decide +kernel
theorem dL_isRead_149 : decode cL_isRead 149 = .ok (.goto 5, 3) := by decide +kernel
theorem dL_isRead_152 : decode cL_isRead 152 = .ok (.iload 5, 2) := by decide +kernel
theorem dL_isRead_154 : decode cL_isRead 154 = .ok (.if_icmp .ne 7, 3) := by decide +kernel
theorem dL_isRead_157 : decode cL_isRead 157 = .ok (.iconst 1, 1) := by decide +kernel
theorem dL_isRead_158 : decode cL_isRead 158 = .ok (.goto 4, 3) := by decide +kernel
theorem dL_isRead_161 : decode cL_isRead 161 = .ok (.iconst 0, 1) := by decide +kernel
theorem dL_isRead_162 : decode cL_isRead 162 = .ok (.ireturn, 1) := by decide +kernel
theorem dL_law_0 : decode cL_law 0 = .ok (.new 9, 3) := by decide +kernel
theorem dL_law_3 : decode cL_law 3 = .ok (.dup, 1) := by decide +kernel
theorem dL_law_4 : decode cL_law 4 = .ok (.invokespecial 167, 3) := by decide +kernel
theorem dL_law_7 : decode cL_law 7 = .ok (.astore_n 1, 1) := by decide +kernel
theorem dL_law_8 : decode cL_law 8 = .ok (.iconst 3, 1) := by decide +kernel
theorem dL_law_9 : decode cL_law 9 = .ok (.newarray .int, 2) := by decide +kernel
theorem dL_law_11 : decode cL_law 11 = .ok (.astore_n 2, 1) := by decide +kernel
theorem dL_law_12 : decode cL_law 12 = .ok (.aload_n 1, 1) := by decide +kernel
theorem dL_law_13 : decode cL_law 13 = .ok (.invokevirtual 133, 3) := by decide +kernel
theorem dL_law_16 : decode cL_law 16 = .ok (.ifCond .ne 45, 3) := by decide +kernel
theorem dL_law_19 : decode cL_law 19 = .ok (.aload_n 1, 1) := by decide +kernel
theorem dL_law_20 : decode cL_law 20 = .ok (.iconst 2, 1) := by decide +kernel
theorem dL_law_21 : decode cL_law 21 = .ok (.invokevirtual 139, 3) := by decide +kernel
theorem dL_law_24 : decode cL_law 24 = .ok (.ifCond .ne 37, 3) := by decide +kernel
theorem dL_law_27 : decode cL_law 27 = .ok (.aload_n 1, 1) := by decide +kernel
theorem dL_law_28 : decode cL_law 28 = .ok (.iconst 1, 1) := by decide +kernel
theorem dL_law_29 : decode cL_law 29 = .ok (.invokevirtual 151, 3) := by decide +kernel
theorem dL_law_32 : decode cL_law 32 = .ok (.iconst 5, 1) := by decide +kernel
theorem dL_law_33 : decode cL_law 33 = .ok (.if_icmp .ne 28, 3) := by decide +kernel
theorem dL_law_36 : decode cL_law 36 = .ok (.aload_n 1, 1) := by decide +kernel
theorem dL_law_37 : decode cL_law 37 = .ok (.iconst 1, 1) := by decide +kernel
theorem dL_law_38 : decode cL_law 38 = .ok (.invokevirtual 154, 3) := by decide +kernel
theorem dL_law_41 : decode cL_law 41 = .ok (.bipush (-5), 2) := by decide +kernel
theorem dL_law_43 : decode cL_law 43 = .ok (.if_icmp .ne 18, 3) := by decide +kernel
theorem dL_law_46 : decode cL_law 46 = .ok (.aload_n 1, 1) := by decide +kernel
theorem dL_law_47 : decode cL_law 47 = .ok (.invokevirtual 76, 3) := by decide +kernel
theorem dL_law_50 : decode cL_law 50 = .ok (.iconst 4, 1) := by decide +kernel
theorem dL_law_51 : decode cL_law 51 = .ok (.if_icmp .ne 10, 3) := by decide +kernel
theorem dL_law_54 : decode cL_law 54 = .ok (.aload_n 1, 1) := by decide +kernel
theorem dL_law_55 : decode cL_law 55 = .ok (.invokevirtual 168, 3) := by decide +kernel
theorem dL_law_58 : decode cL_law 58 = .ok (.ifCond .eq 5, 3) := by decide +kernel
theorem dL_law_61 : decode cL_law 61 = .ok (.iconst 0, 1) := by decide +kernel
theorem dL_law_62 : decode cL_law 62 = .ok (.ireturn, 1) := by decide +kernel
theorem dL_law_63 : decode cL_law 63 = .ok (.iconst 0, 1) := by decide +kernel
theorem dL_law_64 : decode cL_law 64 = .ok (.istore_n 3, 1) := by decide +kernel
theorem dL_law_65 : decode cL_law 65 = .ok (.iload_n 3, 1) := by decide +kernel
theorem dL_law_66 : decode cL_law 66 = .ok (.bipush 90, 2) := by decide +kernel
theorem dL_law_68 : decode cL_law 68 = .ok (.if_icmp .ge 110, 3) := by decide +kernel
theorem dL_law_71 : decode cL_law 71 = .ok (.aload_n 0, 1) := by decide +kernel
theorem dL_law_72 : decode cL_law 72 = .ok (.iload_n 3, 1) := by decide +kernel
theorem dL_law_73 : decode cL_law 73 = .ok (.invokestatic 171, 3) := by decide +kernel
theorem dL_law_76 : decode cL_law 76 = .ok (.istore 4, 2) := by decide +kernel
theorem dL_law_78 : decode cL_law 78 = .ok (.aload_n 1, 1) := by decide +kernel
theorem dL_law_79 : decode cL_law 79 = .ok (.iload 4, 2) := by decide +kernel
theorem dL_law_81 : decode cL_law 81 = .ok (.invokestatic 175, 3) := by decide +kernel
theorem dL_law_84 : decode cL_law 84 = .ok (.ifCond .eq 48, 3) := by decide +kernel
theorem dL_law_87 : decode cL_law 87 = .ok (.iload 4, 2) := by decide +kernel
theorem dL_law_89 : decode cL_law 89 = .ok (.bipush 19, 2) := by decide +kernel
theorem dL_law_91 : decode cL_law 91 = .ok (.ishr, 1) := by decide +kernel
theorem dL_law_92 : decode cL_law 92 = .ok (.iconst 3, 1) := by decide +kernel
theorem dL_law_93 : decode cL_law 93 = .ok (.iand, 1) := by decide +kernel
theorem dL_law_94 : decode cL_law 94 = .ok (.ifCond .ne 14, 3) := by decide +kernel
theorem dL_law_97 : decode cL_law 97 = .ok (.aload_n 1, 1) := by decide +kernel
theorem dL_law_98 : decode cL_law 98 = .ok (.iload 4, 2) := by decide +kernel
theorem dL_law_100 : decode cL_law 100 = .ok (.iconst 5, 1) := by decide +kernel
theorem dL_law_101 : decode cL_law 101 = .ok (.ishr, 1) := by decide +kernel
theorem dL_law_102 : decode cL_law 102 = .ok (.invokestatic 178, 3) := by decide +kernel
theorem dL_law_105 : decode cL_law 105 = .ok (.ifCond .eq 27, 3) := by decide +kernel
theorem dL_law_108 : decode cL_law 108 = .ok (.iload_n 3, 1) := by decide +kernel
theorem dL_law_109 : decode cL_law 109 = .ok (.bipush 8, 2) := by decide +kernel
theorem dL_law_111 : decode cL_law 111 = .ok (.irem, 1) := by decide +kernel
theorem dL_law_112 : decode cL_law 112 = .ok (.iconst 5, 1) := by decide +kernel
theorem dL_law_113 : decode cL_law 113 = .ok (.if_icmp .ne 15, 3) := by decide +kernel
theorem dL_law_116 : decode cL_law 116 = .ok (.aload_n 1, 1) := by decide +kernel
theorem dL_law_117 : decode cL_law 117 = .ok (.aload_n 2, 1) := by decide +kernel
theorem dL_law_118 : decode cL_law 118 = .ok (.iload 4, 2) := by decide +kernel
theorem dL_law_120 : decode cL_law 120 = .ok (.iconst 3, 1) := by decide +kernel
theorem dL_law_121 : decode cL_law 121 = .ok (.ishr, 1) := by decide +kernel
theorem dL_law_122 : decode cL_law 122 = .ok (.invokestatic 181, 3) := by decide +kernel
theorem dL_law_125 : decode cL_law 125 = .ok (.ifCond .eq 7, 3) := by decide +kernel
theorem dL_law_128 : decode cL_law 128 = .ok (.iconst 1, 1) := by decide +kernel
theorem dL_law_129 : decode cL_law 129 = .ok (.goto 4, 3) := by decide +kernel
theorem dL_law_132 : decode cL_law 132 = .ok (.iconst 0, 1) := by decide +kernel
theorem dL_law_133 : decode cL_law 133 = .ok (.istore 5, 2) := by decide +kernel
theorem dL_law_135 : decode cL_law 135 = .ok (.iload 5, 2) := by decide +kernel
theorem dL_law_137 : decode cL_law 137 = .ok (.ifCond .eq 33, 3) := by decide +kernel
theorem dL_law_140 : decode cL_law 140 = .ok (.iload_n 3, 1) := by decide +kernel
theorem dL_law_141 : decode cL_law 141 = .ok (.iconst 5, 1) := by decide +kernel
theorem dL_law_142 : decode cL_law 142 = .ok (.irem, 1) := by decide +kernel
theorem dL_law_143 : decode cL_law 143 = .ok (.iconst 4, 1) := by decide +kernel
theorem dL_law_144 : decode cL_law 144 = .ok (.if_icmp .ne 10, 3) := by decide +kernel
theorem dL_law_147 : decode cL_law 147 = .ok (.aload_n 1, 1) := by decide +kernel
theorem dL_law_148 : decode cL_law 148 = .ok (.invokestatic 185, 3) := by decide +kernel
theorem dL_law_151 : decode cL_law 151 = .ok (.ifCond .eq 19, 3) := by decide +kernel
theorem dL_law_154 : decode cL_law 154 = .ok (.aload_n 1, 1) := by decide +kernel
theorem dL_law_155 : decode cL_law 155 = .ok (.aload_n 2, 1) := by decide +kernel
theorem dL_law_156 : decode cL_law 156 = .ok (.iconst 0, 1) := by decide +kernel
theorem dL_law_157 : decode cL_law 157 = .ok (.iaload, 1) := by decide +kernel
theorem dL_law_158 : decode cL_law 158 = .ok (.aload_n 2, 1) := by decide +kernel
theorem dL_law_159 : decode cL_law 159 = .ok (.iconst 1, 1) := by decide +kernel
theorem dL_law_160 : decode cL_law 160 = .ok (.iaload, 1) := by decide +kernel
theorem dL_law_161 : decode cL_law 161 = .ok (.invokevirtual 40, 3) := by decide +kernel
theorem dL_law_164 : decode cL_law 164 = .ok (.aload_n 2, 1) := by decide +kernel
theorem dL_law_165 : decode cL_law 165 = .ok (.iconst 2, 1) := by decide +kernel
theorem dL_law_166 : decode cL_law 166 = .ok (.iaload, 1) := by decide +kernel
theorem dL_law_167 : decode cL_law 167 = .ok (.if_icmp .eq 5, 3) := by decide +kernel
theorem dL_law_170 : decode cL_law 170 = .ok (.iconst 0, 1) := by decide +kernel
theorem dL_law_171 : decode cL_law 171 = .ok (.ireturn, 1) := by decide +kernel
theorem dL_law_172 : decode cL_law 172 = .ok (.iinc 3 1, 3) := by decide +kernel
theorem dL_law_175 : decode cL_law 175 = .ok (.goto (-110), 3) := by decide +kernel
theorem dL_law_178 : decode cL_law 178 = .ok (.aload_n 1, 1) := by decide +kernel
theorem dL_law_179 : decode cL_law 179 = .ok (.invokestatic 185, 3) := by decide +kernel
theorem dL_law_182 : decode cL_law 182 = .ok (.ireturn, 1) := by decide +kernel
