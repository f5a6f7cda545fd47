theorem dX7_init_0 : decode cX7_init 0 = .ok (.aload_n 0, 1) := by decide +kernel
theorem dX7_init_1 : decode cX7_init 1 = .ok (.invokespecial 1, 3) := by decide +kernel
theorem dX7_init_4 : decode cX7_init 4 = .ok (.aload_n 0, 1) := by decide +kernel
theorem dX7_init_5 : decode cX7_init 5 = .ok (.sipush 865, 3) := by decide +kernel
theorem dX7_init_8 : decode cX7_init 8 = .ok (.newarray .int, 2) := by decide +kernel
theorem dX7_init_10 : decode cX7_init 10 = .ok (.putfield 7, 3) := by decide +kernel
theorem dX7_init_13 : decode cX7_init 13 = .ok (.aload_n 0, 1) := by decide +kernel
theorem dX7_init_14 : decode cX7_init 14 = .ok (.sipush 5190, 3) := by decide +kernel
theorem dX7_init_17 : decode cX7_init 17 = .ok (.newarray .int, 2) := by decide +kernel
theorem dX7_init_19 : decode cX7_init 19 = .ok (.putfield 13, 3) := by decide +kernel
theorem dX7_init_22 : decode cX7_init 22 = .ok (.aload_n 0, 1) := by decide +kernel
theorem dX7_init_23 : decode cX7_init 23 = .ok (.sipush 1730, 3) := by decide +kernel
theorem dX7_init_26 : decode cX7_init 26 = .ok (.newarray .int, 2) := by decide +kernel
theorem dX7_init_28 : decode cX7_init 28 = .ok (.putfield 16, 3) := by decide +kernel
theorem dX7_init_31 : decode cX7_init 31 = .ok (.aload_n 0, 1) := by decide +kernel
theorem dX7_init_32 : decode cX7_init 32 = .ok (.iconst 2, 1) := by decide +kernel
theorem dX7_init_33 : decode cX7_init 33 = .ok (.newarray .boolean, 2) := by decide +kernel
theorem dX7_init_35 : decode cX7_init 35 = .ok (.putfield 19, 3) := by decide +kernel
theorem dX7_init_38 : decode cX7_init 38 = .ok (.aload_n 0, 1) := by decide +kernel
theorem dX7_init_39 : decode cX7_init 39 = .ok (.bipush 80, 2) := by decide +kernel
theorem dX7_init_41 : decode cX7_init 41 = .ok (.newarray .int, 2) := by decide +kernel
theorem dX7_init_43 : decode cX7_init 43 = .ok (.putfield 23, 3) := by decide +kernel
theorem dX7_init_46 : decode cX7_init 46 = .ok (.iconst 0, 1) := by decide +kernel
theorem dX7_init_47 : decode cX7_init 47 = .ok (.istore_n 1, 1) := by decide +kernel
theorem dX7_init_48 : decode cX7_init 48 = .ok (.iload_n 1, 1) := by decide +kernel
theorem dX7_init_49 : decode cX7_init 49 = .ok (.iconst 3, 1) := by decide +kernel
theorem dX7_init_50 : decode cX7_init 50 = .ok (.if_icmp .ge 39, 3) := by decide +kernel
theorem dX7_init_53 : decode cX7_init 53 = .ok (.aload_n 0, 1) := by decide +kernel
theorem dX7_init_54 : decode cX7_init 54 = .ok (.getfield 7, 3) := by decide +kernel
theorem dX7_init_57 : decode cX7_init 57 = .ok (.bipush 7, 2) := by decide +kernel
theorem dX7_init_59 : decode cX7_init 59 = .ok (.bipush 6, 2) := by decide +kernel
theorem dX7_init_61 : decode cX7_init 61 = .ok (.iload_n 1, 1) := by decide +kernel
theorem dX7_init_62 : decode cX7_init 62 = .ok (.imul, 1) := by decide +kernel
theorem dX7_init_63 : decode cX7_init 63 = .ok (.iadd, 1) := by decide +kernel
theorem dX7_init_64 : decode cX7_init 64 = .ok (.iconst 3, 1) := by decide +kernel
theorem dX7_init_65 : decode cX7_init 65 = .ok (.iadd, 1) := by decide +kernel
theorem dX7_init_66 : decode cX7_init 66 = .ok (.iconst 5, 1) := by decide +kernel
theorem dX7_init_67 : decode cX7_init 67 = .ok (.iastore, 1) := by decide +kernel
theorem dX7_init_68 : decode cX7_init 68 = .ok (.aload_n 0, 1) := by decide +kernel
theorem dX7_init_69 : decode cX7_init 69 = .ok (.getfield 7, 3) := by decide +kernel
theorem dX7_init_72 : decode cX7_init 72 = .ok (.bipush 7, 2) := by decide +kernel
theorem dX7_init_74 : decode cX7_init 74 = .ok (.bipush 6, 2) := by decide +kernel
theorem dX7_init_76 : decode cX7_init 76 = .ok (.iload_n 1, 1) := by decide +kernel
theorem dX7_init_77 : decode cX7_init 77 = .ok (.imul, 1) := by decide +kernel
theorem dX7_init_78 : decode cX7_init 78 = .ok (.iadd, 1) := by decide +kernel
theorem dX7_init_79 : decode cX7_init 79 = .ok (.iconst 4, 1) := by decide +kernel
theorem dX7_init_80 : decode cX7_init 80 = .ok (.iadd, 1) := by decide +kernel
theorem dX7_init_81 : decode cX7_init 81 = .ok (.iconst 2, 1) := by decide +kernel
theorem dX7_init_82 : decode cX7_init 82 = .ok (.iastore, 1) := by decide +kernel
theorem dX7_init_83 : decode cX7_init 83 = .ok (.iinc 1 1, 3) := by decide +kernel
theorem dX7_init_86 : decode cX7_init 86 = .ok (.goto (-38), 3) := by decide +kernel
theorem dX7_init_89 : decode cX7_init 89 = .ok (.return_, 1) := by decide +kernel
theorem dX7_thrown_0 : decode cX7_thrown 0 = .ok (.aload_n 0, 1) := by decide +kernel
theorem dX7_thrown_1 : decode cX7_thrown 1 = .ok (.getfield 26, 3) := by decide +kernel
theorem dX7_thrown_4 : decode cX7_thrown 4 = .ok (.ireturn, 1) := by decide +kernel
theorem dX7_throwsAt_0 : decode cX7_throwsAt 0 = .ok (.aload_n 0, 1) := by decide +kernel
theorem dX7_throwsAt_1 : decode cX7_throwsAt 1 = .ok (.iload_n 1, 1) := by decide +kernel
theorem dX7_throwsAt_2 : decode cX7_throwsAt 2 = .ok (.putfield 26, 3) := by decide +kernel
theorem dX7_throwsAt_5 : decode cX7_throwsAt 5 = .ok (.iload_n 1, 1) := by decide +kernel
theorem dX7_throwsAt_6 : decode cX7_throwsAt 6 = .ok (.ifCond .le 7, 3) := by decide +kernel
theorem dX7_throwsAt_9 : decode cX7_throwsAt 9 = .ok (.iconst 1, 1) := by decide +kernel
theorem dX7_throwsAt_10 : decode cX7_throwsAt 10 = .ok (.goto 4, 3) := by decide +kernel
theorem dX7_throwsAt_13 : decode cX7_throwsAt 13 = .ok (.iconst 0, 1) := by decide +kernel
theorem dX7_throwsAt_14 : decode cX7_throwsAt 14 = .ok (.ireturn, 1) := by decide +kernel
theorem dX7_in_0 : decode cX7_in 0 = .ok (.iload_n 0, 1) := by decide +kernel
theorem dX7_in_1 : decode cX7_in 1 = .ok (.iload_n 1, 1) := by decide +kernel
theorem dX7_in_2 : decode cX7_in 2 = .ok (.if_icmp .lt 12, 3) := by decide +kernel
theorem dX7_in_5 : decode cX7_in 5 = .ok (.iload_n 0, 1) := by decide +kernel
theorem dX7_in_6 : decode cX7_in 6 = .ok (.iload_n 2, 1) := by decide +kernel
theorem dX7_in_7 : decode cX7_in 7 = .ok (.if_icmp .gt 7, 3) := by decide +kernel
theorem dX7_in_10 : decode cX7_in 10 = .ok (.iconst 1, 1) := by decide +kernel
theorem dX7_in_11 : decode cX7_in 11 = .ok (.goto 4, 3) := by decide +kernel
theorem dX7_in_14 : decode cX7_in 14 = .ok (.iconst 0, 1) := by decide +kernel
theorem dX7_in_15 : decode cX7_in 15 = .ok (.ireturn, 1) := by decide +kernel
theorem dX7_isServer_0 : decode cX7_isServer 0 = .ok (.iload_n 0, 1) := by decide +kernel
theorem dX7_isServer_1 : decode cX7_isServer 1 = .ok (.iconst 0, 1) := by decide +kernel
theorem dX7_isServer_2 : decode cX7_isServer 2 = .ok (.iconst 2, 1) := by decide +kernel
theorem dX7_isServer_3 : decode cX7_isServer 3 = .ok (.invokestatic 30, 3) := by decide +kernel
theorem dX7_isServer_6 : decode cX7_isServer 6 = .ok (.ireturn, 1) := by decide +kernel
theorem dX7_isKey_0 : decode cX7_isKey 0 = .ok (.iload_n 0, 1) := by decide +kernel
theorem dX7_isKey_1 : decode cX7_isKey 1 = .ok (.iconst 0, 1) := by decide +kernel
theorem dX7_isKey_2 : decode cX7_isKey 2 = .ok (.bipush 7, 2) := by decide +kernel
theorem dX7_isKey_4 : decode cX7_isKey 4 = .ok (.invokestatic 30, 3) := by decide +kernel
theorem dX7_isKey_7 : decode cX7_isKey 7 = .ok (.ireturn, 1) := by decide +kernel
theorem dX7_isTransaction_0 : decode cX7_isTransaction 0 = .ok (.iload_n 1, 1) := by decide +kernel
theorem dX7_isTransaction_1 : decode cX7_isTransaction 1 = .ok (.iconst 0, 1) := by decide +kernel
theorem dX7_isTransaction_2 : decode cX7_isTransaction 2 = .ok (.aload_n 0, 1) := by decide +kernel
theorem dX7_isTransaction_3 : decode cX7_isTransaction 3 = .ok (.getfield 7, 3) := by decide +kernel
theorem dX7_isTransaction_6 : decode cX7_isTransaction 6 = .ok (.iconst 3, 1) := by decide +kernel
theorem dX7_isTransaction_7 : decode cX7_isTransaction 7 = .ok (.iaload, 1) := by decide +kernel
theorem dX7_isTransaction_8 : decode cX7_isTransaction 8 = .ok (.iconst 1, 1) := by decide +kernel
theorem dX7_isTransaction_9 : decode cX7_isTransaction 9 = .ok (.isub, 1) := by decide +kernel
theorem dX7_isTransaction_10 : decode cX7_isTransaction 10 = .ok (.invokestatic 30, 3) := by decide +kernel
theorem dX7_isTransaction_13 : decode cX7_isTransaction 13 = .ok (.ireturn, 1) := by decide +kernel
theorem dX7_greater_0 : decode cX7_greater 0 = .ok (.iload_n 0, 1) := by decide +kernel
theorem dX7_greater_1 : decode cX7_greater 1 = .ok (.iload_n 1, 1) := by decide +kernel
theorem dX7_greater_2 : decode cX7_greater 2 = .ok (.if_icmp .le 7, 3) := by decide +kernel
theorem dX7_greater_5 : decode cX7_greater 5 = .ok (.iload_n 0, 1) := by decide +kernel
theorem dX7_greater_6 : decode cX7_greater 6 = .ok (.goto 4, 3) := by decide +kernel
theorem dX7_greater_9 : decode cX7_greater 9 = .ok (.iload_n 1, 1) := by decide +kernel
theorem dX7_greater_10 : decode cX7_greater 10 = .ok (.ireturn, 1) := by decide +kernel
theorem dX7_saves_0 : decode cX7_saves 0 = .ok (.aload_n 0, 1) := by decide +kernel
theorem dX7_saves_1 : decode cX7_saves 1 = .ok (.getfield 34, 3) := by decide +kernel
theorem dX7_saves_4 : decode cX7_saves 4 = .ok (.bipush 6, 2) := by decide +kernel
theorem dX7_saves_6 : decode cX7_saves 6 = .ok (.if_icmp .ne 44, 3) := by decide +kernel
theorem dX7_saves_9 : decode cX7_saves 9 = .ok (.iconst 0, 1) := by decide +kernel
theorem dX7_saves_10 : decode cX7_saves 10 = .ok (.istore_n 1, 1) := by decide +kernel
theorem dX7_saves_11 : decode cX7_saves 11 = .ok (.iload_n 1, 1) := by decide +kernel
theorem dX7_saves_12 : decode cX7_saves 12 = .ok (.sipush 4325, 3) := by decide +kernel
theorem dX7_saves_15 : decode cX7_saves 15 = .ok (.if_icmp .ge 25, 3) := by decide +kernel
theorem dX7_saves_18 : decode cX7_saves 18 = .ok (.aload_n 0, 1) := by decide +kernel
theorem dX7_saves_19 : decode cX7_saves 19 = .ok (.getfield 13, 3) := by decide +kernel
theorem dX7_saves_22 : decode cX7_saves 22 = .ok (.iload_n 1, 1) := by decide +kernel
theorem dX7_saves_23 : decode cX7_saves 23 = .ok (.aload_n 0, 1) := by decide +kernel
theorem dX7_saves_24 : decode cX7_saves 24 = .ok (.getfield 13, 3) := by decide +kernel
theorem dX7_saves_27 : decode cX7_saves 27 = .ok (.sipush 865, 3) := by decide +kernel
theorem dX7_saves_30 : decode cX7_saves 30 = .ok (.iload_n 1, 1) := by decide +kernel
theorem dX7_saves_31 : decode cX7_saves 31 = .ok (.iadd, 1) := by decide +kernel
theorem dX7_saves_32 : decode cX7_saves 32 = .ok (.iaload, 1) := by decide +kernel
theorem dX7_saves_33 : decode cX7_saves 33 = .ok (.iastore, 1) := by decide +kernel
theorem dX7_saves_34 : decode cX7_saves 34 = .ok (.iinc 1 1, 3) := by decide +kernel
theorem dX7_saves_37 : decode cX7_saves 37 = .ok (.goto (-26), 3) := by decide +kernel
theorem dX7_saves_40 : decode cX7_saves 40 = .ok (.aload_n 0, 1) := by decide +kernel
theorem dX7_saves_41 : decode cX7_saves 41 = .ok (.dup, 1) := by decide +kernel
theorem dX7_saves_42 : decode cX7_saves 42 = .ok (.getfield 34, 3) := by decide +kernel
theorem dX7_saves_45 : decode cX7_saves 45 = .ok (.iconst 1, 1) := by decide +kernel
theorem dX7_saves_46 : decode cX7_saves 46 = .ok (.isub, 1) := by decide +kernel
theorem dX7_saves_47 : decode cX7_saves 47 = .ok (.putfield 34, 3) := by decide +kernel
theorem dX7_saves_50 : decode cX7_saves 50 = .ok (.iconst 0, 1) := by decide +kernel
theorem dX7_saves_51 : decode cX7_saves 51 = .ok (.istore_n 1, 1) := by decide +kernel
theorem dX7_saves_52 : decode cX7_saves 52 = .ok (.iload_n 1, 1) := by decide +kernel
theorem dX7_saves_53 : decode cX7_saves 53 = .ok (.sipush 865, 3) := by decide +kernel
theorem dX7_saves_56 : decode cX7_saves 56 = .ok (.if_icmp .ge 30, 3) := by decide +kernel
theorem dX7_saves_59 : decode cX7_saves 59 = .ok (.aload_n 0, 1) := by decide +kernel
theorem dX7_saves_60 : decode cX7_saves 60 = .ok (.getfield 13, 3) := by decide +kernel
theorem dX7_saves_63 : decode cX7_saves 63 = .ok (.sipush 865, 3) := by decide +kernel
theorem dX7_saves_66 : decode cX7_saves 66 = .ok (.aload_n 0, 1) := by decide +kernel
theorem dX7_saves_67 : decode cX7_saves 67 = .ok (.getfield 34, 3) := by decide +kernel
theorem dX7_saves_70 : decode cX7_saves 70 = .ok (.imul, 1) := by decide +kernel
theorem dX7_saves_71 : decode cX7_saves 71 = .ok (.iload_n 1, 1) := by decide +kernel
theorem dX7_saves_72 : decode cX7_saves 72 = .ok (.iadd, 1) := by decide +kernel
theorem dX7_saves_73 : decode cX7_saves 73 = .ok (.aload_n 0, 1) := by decide +kernel
theorem dX7_saves_74 : decode cX7_saves 74 = .ok (.getfield 7, 3) := by decide +kernel
theorem dX7_saves_77 : decode cX7_saves 77 = .ok (.iload_n 1, 1) := by decide +kernel
theorem dX7_saves_78 : decode cX7_saves 78 = .ok (.iaload, 1) := by decide +kernel
theorem dX7_saves_79 : decode cX7_saves 79 = .ok (.iastore, 1) := by decide +kernel
theorem dX7_saves_80 : decode cX7_saves 80 = .ok (.iinc 1 1, 3) := by decide +kernel
theorem dX7_saves_83 : decode cX7_saves 83 = .ok (.goto (-31), 3) := by decide +kernel
theorem dX7_saves_86 : decode cX7_saves 86 = .ok (.aload_n 0, 1) := by decide +kernel
theorem dX7_saves_87 : decode cX7_saves 87 = .ok (.dup, 1) := by decide +kernel
theorem dX7_saves_88 : decode cX7_saves 88 = .ok (.getfield 34, 3) := by decide +kernel
theorem dX7_saves_91 : decode cX7_saves 91 = .ok (.iconst 1, 1) := by decide +kernel
theorem dX7_saves_92 : decode cX7_saves 92 = .ok (.iadd, 1) := by decide +kernel
theorem dX7_saves_93 : decode cX7_saves 93 = .ok (.putfield 34, 3) := by decide +kernel
theorem dX7_saves_96 : decode cX7_saves 96 = .ok (.return_, 1) := by decide +kernel
theorem dX7_down_0 : decode cX7_down 0 = .ok (.iload_n 0, 1) := by decide +kernel
theorem dX7_down_1 : decode cX7_down 1 = .ok (.ifCond .lt 11, 3) := by decide +kernel
theorem dX7_down_4 : decode cX7_down 4 = .ok (.iload_n 0, 1) := by decide +kernel
theorem dX7_down_5 : decode cX7_down 5 = .ok (.sipush 1000, 3) := by decide +kernel
theorem dX7_down_8 : decode cX7_down 8 = .ok (.idiv, 1) := by decide +kernel
theorem dX7_down_9 : decode cX7_down 9 = .ok (.goto 13, 3) := by decide +kernel
theorem dX7_down_12 : decode cX7_down 12 = .ok (.sipush 999, 3) := by decide +kernel
theorem dX7_down_15 : decode cX7_down 15 = .ok (.iload_n 0, 1) := by decide +kernel
theorem dX7_down_16 : decode cX7_down 16 = .ok (.isub, 1) := by decide +kernel
theorem dX7_down_17 : decode cX7_down 17 = .ok (.sipush 1000, 3) := by decide +kernel
theorem dX7_down_20 : decode cX7_down 20 = .ok (.idiv, 1) := by decide +kernel
theorem dX7_down_21 : decode cX7_down 21 = .ok (.ineg, 1) := by decide +kernel
theorem dX7_down_22 : decode cX7_down 22 = .ok (.ireturn, 1) := by decide +kernel
theorem dX7_clock_0 : decode cX7_clock 0 = .ok (.aload_n 0, 1) := by decide +kernel
theorem dX7_clock_1 : decode cX7_clock 1 = .ok (.getfield 7, 3) := by decide +kernel
theorem dX7_clock_4 : decode cX7_clock 4 = .ok (.bipush 7, 2) := by decide +kernel
theorem dX7_clock_6 : decode cX7_clock 6 = .ok (.bipush 6, 2) := by decide +kernel
theorem dX7_clock_8 : decode cX7_clock 8 = .ok (.iload_n 1, 1) := by decide +kernel
theorem dX7_clock_9 : decode cX7_clock 9 = .ok (.imul, 1) := by decide +kernel
theorem dX7_clock_10 : decode cX7_clock 10 = .ok (.iadd, 1) := by decide +kernel
theorem dX7_clock_11 : decode cX7_clock 11 = .ok (.iload_n 2, 1) := by decide +kernel
theorem dX7_clock_12 : decode cX7_clock 12 = .ok (.iadd, 1) := by decide +kernel
theorem dX7_clock_13 : decode cX7_clock 13 = .ok (.iaload, 1) := by decide +kernel
theorem dX7_clock_14 : decode cX7_clock 14 = .ok (.ireturn, 1) := by decide +kernel
theorem dX7_sets_0 : decode cX7_sets 0 = .ok (.aload_n 0, 1) := by decide +kernel
theorem dX7_sets_1 : decode cX7_sets 1 = .ok (.getfield 7, 3) := by decide +kernel
theorem dX7_sets_4 : decode cX7_sets 4 = .ok (.bipush 7, 2) := by decide +kernel
theorem dX7_sets_6 : decode cX7_sets 6 = .ok (.bipush 6, 2) := by decide +kernel
theorem dX7_sets_8 : decode cX7_sets 8 = .ok (.iload_n 1, 1) := by decide +kernel
theorem dX7_sets_9 : decode cX7_sets 9 = .ok (.imul, 1) := by decide +kernel
theorem dX7_sets_10 : decode cX7_sets 10 = .ok (.iadd, 1) := by decide +kernel
theorem dX7_sets_11 : decode cX7_sets 11 = .ok (.iload_n 2, 1) := by decide +kernel
theorem dX7_sets_12 : decode cX7_sets 12 = .ok (.iadd, 1) := by decide +kernel
theorem dX7_sets_13 : decode cX7_sets 13 = .ok (.iload_n 3, 1) := by decide +kernel
theorem dX7_sets_14 : decode cX7_sets 14 = .ok (.iastore, 1) := by decide +kernel
theorem dX7_sets_15 : decode cX7_sets 15 = .ok (.return_, 1) := by decide +kernel
theorem dX7_offset_0 : decode cX7_offset 0 = .ok (.aload_n 0, 1) := by decide +kernel
theorem dX7_offset_1 : decode cX7_offset 1 = .ok (.iload_n 1, 1) := by decide +kernel
theorem dX7_offset_2 : decode cX7_offset 2 = .ok (.iconst 0, 1) := by decide +kernel
theorem dX7_offset_3 : decode cX7_offset 3 = .ok (.invokevirtual 37, 3) := by decide +kernel
theorem dX7_offset_6 : decode cX7_offset 6 = .ok (.aload_n 0, 1) := by decide +kernel
theorem dX7_offset_7 : decode cX7_offset 7 = .ok (.iload_n 1, 1) := by decide +kernel
theorem dX7_offset_8 : decode cX7_offset 8 = .ok (.iconst 2, 1) := by decide +kernel
theorem dX7_offset_9 : decode cX7_offset 9 = .ok (.invokevirtual 37, 3) := by decide +kernel
theorem dX7_offset_12 : decode cX7_offset 12 = .ok (.iload_n 2, 1) := by decide +kernel
theorem dX7_offset_13 : decode cX7_offset 13 = .ok (.aload_n 0, 1) := by decide +kernel
theorem dX7_offset_14 : decode cX7_offset 14 = .ok (.iload_n 1, 1) := by decide +kernel
theorem dX7_offset_15 : decode cX7_offset 15 = .ok (.iconst 1, 1) := by decide +kernel
theorem dX7_offset_16 : decode cX7_offset 16 = .ok (.invokevirtual 37, 3) := by decide +kernel
theorem dX7_offset_19 : decode cX7_offset 19 = .ok (.isub, 1) := by decide +kernel
theorem dX7_offset_20 : decode cX7_offset 20 = .ok (.imul, 1) := by decide +kernel
theorem dX7_offset_21 : decode cX7_offset 21 = .ok (.invokestatic 41, 3) := by decide +kernel
theorem dX7_offset_24 : decode cX7_offset 24 = .ok (.iadd, 1) := by decide +kernel
theorem dX7_offset_25 : decode cX7_offset 25 = .ok (.ireturn, 1) := by decide +kernel
theorem dX7_uncertainty_0 : decode cX7_uncertainty 0 = .ok (.aload_n 0, 1) := by decide +kernel
theorem dX7_uncertainty_1 : decode cX7_uncertainty 1 = .ok (.iload_n 1, 1) := by decide +kernel
theorem dX7_uncertainty_2 : decode cX7_uncertainty 2 = .ok (.iconst 3, 1) := by decide +kernel
theorem dX7_uncertainty_3 : decode cX7_uncertainty 3 = .ok (.invokevirtual 37, 3) := by decide +kernel
theorem dX7_uncertainty_6 : decode cX7_uncertainty 6 = .ok (.aload_n 0, 1) := by decide +kernel
theorem dX7_uncertainty_7 : decode cX7_uncertainty 7 = .ok (.iload_n 1, 1) := by decide +kernel
theorem dX7_uncertainty_8 : decode cX7_uncertainty 8 = .ok (.iconst 4, 1) := by decide +kernel
theorem dX7_uncertainty_9 : decode cX7_uncertainty 9 = .ok (.invokevirtual 37, 3) := by decide +kernel
theorem dX7_uncertainty_12 : decode cX7_uncertainty 12 = .ok (.iload_n 2, 1) := by decide +kernel
theorem dX7_uncertainty_13 : decode cX7_uncertainty 13 = .ok (.aload_n 0, 1) := by decide +kernel
theorem dX7_uncertainty_14 : decode cX7_uncertainty 14 = .ok (.iload_n 1, 1) := by decide +kernel
theorem dX7_uncertainty_15 : decode cX7_uncertainty 15 = .ok (.iconst 5, 1) := by decide +kernel
theorem dX7_uncertainty_16 : decode cX7_uncertainty 16 = .ok (.invokevirtual 37, 3) := by decide +kernel
theorem dX7_uncertainty_19 : decode cX7_uncertainty 19 = .ok (.isub, 1) := by decide +kernel
theorem dX7_uncertainty_20 : decode cX7_uncertainty 20 = .ok (.imul, 1) := by decide +kernel
theorem dX7_uncertainty_21 : decode cX7_uncertainty 21 = .ok (.sipush 999, 3) := by decide +kernel
theorem dX7_uncertainty_24 : decode cX7_uncertainty 24 = .ok (.iadd, 1) := by decide +kernel
theorem dX7_uncertainty_25 : decode cX7_uncertainty 25 = .ok (.sipush 1000, 3) := by decide +kernel
theorem dX7_uncertainty_28 : decode cX7_uncertainty 28 = .ok (.idiv, 1) := by decide +kernel
theorem dX7_uncertainty_29 : decode cX7_uncertainty 29 = .ok (.iadd, 1) := by decide +kernel
theorem dX7_uncertainty_30 : decode cX7_uncertainty 30 = .ok (.ireturn, 1) := by decide +kernel
theorem dX7_earliestAt_0 : decode cX7_earliestAt 0 = .ok (.iload_n 2, 1) := by decide +kernel
theorem dX7_earliestAt_1 : decode cX7_earliestAt 1 = .ok (.aload_n 0, 1) := by decide +kernel
theorem dX7_earliestAt_2 : decode cX7_earliestAt 2 = .ok (.iload_n 1, 1) := by decide +kernel
theorem dX7_earliestAt_3 : decode cX7_earliestAt 3 = .ok (.iload_n 2, 1) := by decide +kernel
theorem dX7_earliestAt_4 : decode cX7_earliestAt 4 = .ok (.invokevirtual 45, 3) := by decide +kernel
theorem dX7_earliestAt_7 : decode cX7_earliestAt 7 = .ok (.iadd, 1) := by decide +kernel
theorem dX7_earliestAt_8 : decode cX7_earliestAt 8 = .ok (.aload_n 0, 1) := by decide +kernel
theorem dX7_earliestAt_9 : decode cX7_earliestAt 9 = .ok (.iload_n 1, 1) := by decide +kernel
theorem dX7_earliestAt_10 : decode cX7_earliestAt 10 = .ok (.iload_n 2, 1) := by decide +kernel
theorem dX7_earliestAt_11 : decode cX7_earliestAt 11 = .ok (.invokevirtual 48, 3) := by decide +kernel
theorem dX7_earliestAt_14 : decode cX7_earliestAt 14 = .ok (.isub, 1) := by decide +kernel
theorem dX7_earliestAt_15 : decode cX7_earliestAt 15 = .ok (.ireturn, 1) := by decide +kernel
theorem dX7_latestAt_0 : decode cX7_latestAt 0 = .ok (.iload_n 2, 1) := by decide +kernel
theorem dX7_latestAt_1 : decode cX7_latestAt 1 = .ok (.aload_n 0, 1) := by decide +kernel
theorem dX7_latestAt_2 : decode cX7_latestAt 2 = .ok (.iload_n 1, 1) := by decide +kernel
theorem dX7_latestAt_3 : decode cX7_latestAt 3 = .ok (.iload_n 2, 1) := by decide +kernel
theorem dX7_latestAt_4 : decode cX7_latestAt 4 = .ok (.invokevirtual 45, 3) := by decide +kernel
theorem dX7_latestAt_7 : decode cX7_latestAt 7 = .ok (.iadd, 1) := by decide +kernel
theorem dX7_latestAt_8 : decode cX7_latestAt 8 = .ok (.aload_n 0, 1) := by decide +kernel
theorem dX7_latestAt_9 : decode cX7_latestAt 9 = .ok (.iload_n 1, 1) := by decide +kernel
theorem dX7_latestAt_10 : decode cX7_latestAt 10 = .ok (.iload_n 2, 1) := by decide +kernel
theorem dX7_latestAt_11 : decode cX7_latestAt 11 = .ok (.invokevirtual 48, 3) := by decide +kernel
theorem dX7_latestAt_14 : decode cX7_latestAt 14 = .ok (.iadd, 1) := by decide +kernel
theorem dX7_latestAt_15 : decode cX7_latestAt 15 = .ok (.ireturn, 1) := by decide +kernel
theorem dX7_isSoundAt_0 : decode cX7_isSoundAt 0 = .ok (.aload_n 0, 1) := by decide +kernel
theorem dX7_isSoundAt_1 : decode cX7_isSoundAt 1 = .ok (.iload_n 1, 1) := by decide +kernel
theorem dX7_isSoundAt_2 : decode cX7_isSoundAt 2 = .ok (.iload_n 2, 1) := by decide +kernel
theorem dX7_isSoundAt_3 : decode cX7_isSoundAt 3 = .ok (.invokevirtual 51, 3) := by decide +kernel
theorem dX7_isSoundAt_6 : decode cX7_isSoundAt 6 = .ok (.iload_n 2, 1) := by decide +kernel
theorem dX7_isSoundAt_7 : decode cX7_isSoundAt 7 = .ok (.if_icmp .gt 17, 3) := by decide +kernel
theorem dX7_isSoundAt_10 : decode cX7_isSoundAt 10 = .ok (.aload_n 0, 1) := by decide +kernel
theorem dX7_isSoundAt_11 : decode cX7_isSoundAt 11 = .ok (.iload_n 1, 1) := by decide +kernel
theorem dX7_isSoundAt_12 : decode cX7_isSoundAt 12 = .ok (.iload_n 2, 1) := by decide +kernel
theorem dX7_isSoundAt_13 : decode cX7_isSoundAt 13 = .ok (.invokevirtual 54, 3) := by decide +kernel
theorem dX7_isSoundAt_16 : decode cX7_isSoundAt 16 = .ok (.iload_n 2, 1) := by decide +kernel
theorem dX7_isSoundAt_17 : decode cX7_isSoundAt 17 = .ok (.if_icmp .lt 7, 3) := by decide +kernel
theorem dX7_isSoundAt_20 : decode cX7_isSoundAt 20 = .ok (.iconst 1, 1) := by decide +kernel
theorem dX7_isSoundAt_21 : decode cX7_isSoundAt 21 = .ok (.goto 4, 3) := by decide +kernel
theorem dX7_isSoundAt_24 : decode cX7_isSoundAt 24 = .ok (.iconst 0, 1) := by decide +kernel
theorem dX7_isSoundAt_25 : decode cX7_isSoundAt 25 = .ok (.ireturn, 1) := by decide +kernel
theorem dX7_uses_0 : decode cX7_uses 0 = .ok (.aload_n 0, 1) := by decide +kernel
theorem dX7_uses_1 : decode cX7_uses 1 = .ok (.getfield 7, 3) := by decide +kernel
theorem dX7_uses_4 : decode cX7_uses 4 = .ok (.iconst 2, 1) := by decide +kernel
theorem dX7_uses_5 : decode cX7_uses 5 = .ok (.dup2, 1) := by decide +kernel
theorem dX7_uses_6 : decode cX7_uses 6 = .ok (.iaload, 1) := by decide +kernel
theorem dX7_uses_7 : decode cX7_uses 7 = .ok (.aload_n 0, 1) := by decide +kernel
theorem dX7_uses_8 : decode cX7_uses 8 = .ok (.iload_n 1, 1) := by decide +kernel
theorem dX7_uses_9 : decode cX7_uses 9 = .ok (.aload_n 0, 1) := by decide +kernel
theorem dX7_uses_10 : decode cX7_uses 10 = .ok (.getfield 7, 3) := by decide +kernel
theorem dX7_uses_13 : decode cX7_uses 13 = .ok (.iconst 0, 1) := by decide +kernel
theorem dX7_uses_14 : decode cX7_uses 14 = .ok (.iaload, 1) := by decide +kernel
theorem dX7_uses_15 : decode cX7_uses 15 = .ok (.invokevirtual 57, 3) := by decide +kernel
theorem dX7_uses_18 : decode cX7_uses 18 = .ok (.ifCond .eq 7, 3) := by decide +kernel
theorem dX7_uses_21 : decode cX7_uses 21 = .ok (.iconst 0, 1) := by decide +kernel
theorem dX7_uses_22 : decode cX7_uses 22 = .ok (.goto 4, 3) := by decide +kernel
theorem dX7_uses_25 : decode cX7_uses 25 = .ok (.iconst 1, 1) := by decide +kernel
theorem dX7_uses_26 : decode cX7_uses 26 = .ok (.iadd, 1) := by decide +kernel
theorem dX7_uses_27 : decode cX7_uses 27 = .ok (.iastore, 1) := by decide +kernel
theorem dX7_uses_28 : decode cX7_uses 28 = .ok (.return_, 1) := by decide +kernel
theorem dX7_of_0 : decode cX7_of 0 = .ok (.aload_n 0, 1) := by decide +kernel
theorem dX7_of_1 : decode cX7_of 1 = .ok (.getfield 7, 3) := by decide +kernel
theorem dX7_of_4 : decode cX7_of 4 = .ok (.bipush 25, 2) := by decide +kernel
theorem dX7_of_6 : decode cX7_of 6 = .ok (.bipush 21, 2) := by decide +kernel
theorem dX7_of_8 : decode cX7_of 8 = .ok (.iload_n 1, 1) := by decide +kernel
theorem dX7_of_9 : decode cX7_of 9 = .ok (.imul, 1) := by decide +kernel
theorem dX7_of_10 : decode cX7_of 10 = .ok (.iadd, 1) := by decide +kernel
theorem dX7_of_11 : decode cX7_of 11 = .ok (.iload_n 2, 1) := by decide +kernel
theorem dX7_of_12 : decode cX7_of 12 = .ok (.iadd, 1) := by decide +kernel
theorem dX7_of_13 : decode cX7_of 13 = .ok (.iaload, 1) := by decide +kernel
theorem dX7_of_14 : decode cX7_of 14 = .ok (.ireturn, 1) := by decide +kernel
theorem dX7_lays_0 : decode cX7_lays 0 = .ok (.aload_n 0, 1) := by decide +kernel
theorem dX7_lays_1 : decode cX7_lays 1 = .ok (.getfield 7, 3) := by decide +kernel
theorem dX7_lays_4 : decode cX7_lays 4 = .ok (.bipush 25, 2) := by decide +kernel
theorem dX7_lays_6 : decode cX7_lays 6 = .ok (.iload_n 1, 1) := by decide +kernel
theorem dX7_lays_7 : decode cX7_lays 7 = .ok (.iadd, 1) := by decide +kernel
theorem dX7_lays_8 : decode cX7_lays 8 = .ok (.iload_n 2, 1) := by decide +kernel
theorem dX7_lays_9 : decode cX7_lays 9 = .ok (.iastore, 1) := by decide +kernel
theorem dX7_lays_10 : decode cX7_lays 10 = .ok (.return_, 1) := by decide +kernel
theorem dX7_hasWritten_0 : decode cX7_hasWritten 0 = .ok (.aload_n 0, 1) := by decide +kernel
theorem dX7_hasWritten_1 : decode cX7_hasWritten 1 = .ok (.iload_n 1, 1) := by decide +kernel
theorem dX7_hasWritten_2 : decode cX7_hasWritten 2 = .ok (.iconst 5, 1) := by decide +kernel
theorem dX7_hasWritten_3 : decode cX7_hasWritten 3 = .ok (.iload_n 2, 1) := by decide +kernel
theorem dX7_hasWritten_4 : decode cX7_hasWritten 4 = .ok (.iadd, 1) := by decide +kernel
theorem dX7_hasWritten_5 : decode cX7_hasWritten 5 = .ok (.invokevirtual 61, 3) := by decide +kernel
theorem dX7_hasWritten_8 : decode cX7_hasWritten 8 = .ok (.ifCond .lt 7, 3) := by decide +kernel
theorem dX7_hasWritten_11 : decode cX7_hasWritten 11 = .ok (.iconst 1, 1) := by decide +kernel
theorem dX7_hasWritten_12 : decode cX7_hasWritten 12 = .ok (.goto 4, 3) := by decide +kernel
theorem dX7_hasWritten_15 : decode cX7_hasWritten 15 = .ok (.iconst 0, 1) := by decide +kernel
theorem dX7_hasWritten_16 : decode cX7_hasWritten 16 = .ok (.ireturn, 1) := by decide +kernel
theorem dX7_hasRead_0 : decode cX7_hasRead 0 = .ok (.aload_n 0, 1) := by decide +kernel
theorem dX7_hasRead_1 : decode cX7_hasRead 1 = .ok (.iload_n 1, 1) := by decide +kernel
theorem dX7_hasRead_2 : decode cX7_hasRead 2 = .ok (.bipush 13, 2) := by decide +kernel
theorem dX7_hasRead_4 : decode cX7_hasRead 4 = .ok (.iload_n 2, 1) := by decide +kernel
theorem dX7_hasRead_5 : decode cX7_hasRead 5 = .ok (.iadd, 1) := by decide +kernel
theorem dX7_hasRead_6 : decode cX7_hasRead 6 = .ok (.invokevirtual 61, 3) := by decide +kernel
theorem dX7_hasRead_9 : decode cX7_hasRead 9 = .ok (.ifCond .lt 7, 3) := by decide +kernel
theorem dX7_hasRead_12 : decode cX7_hasRead 12 = .ok (.iconst 1, 1) := by decide +kernel
theorem dX7_hasRead_13 : decode cX7_hasRead 13 = .ok (.goto 4, 3) := by decide +kernel
theorem dX7_hasRead_16 : decode cX7_hasRead 16 = .ok (.iconst 0, 1) := by decide +kernel
theorem dX7_hasRead_17 : decode cX7_hasRead 17 = .ok (.ireturn, 1) := by decide +kernel
theorem dX7_written_0 : decode cX7_written 0 = .ok (.iconst 0, 1) := by decide +kernel
theorem dX7_written_1 : decode cX7_written 1 = .ok (.istore_n 2, 1) := by decide +kernel
theorem dX7_written_2 : decode cX7_written 2 = .ok (.iconst 0, 1) := by decide +kernel
theorem dX7_written_3 : decode cX7_written 3 = .ok (.istore_n 3, 1) := by decide +kernel
theorem dX7_written_4 : decode cX7_written 4 = .ok (.iload_n 3, 1) := by decide +kernel
theorem dX7_written_5 : decode cX7_written 5 = .ok (.bipush 8, 2) := by decide +kernel
theorem dX7_written_7 : decode cX7_written 7 = .ok (.if_icmp .ge 26, 3) := by decide +kernel
theorem dX7_written_10 : decode cX7_written 10 = .ok (.iload_n 2, 1) := by decide +kernel
theorem dX7_written_11 : decode cX7_written 11 = .ok (.aload_n 0, 1) := by decide +kernel
theorem dX7_written_12 : decode cX7_written 12 = .ok (.iload_n 1, 1) := by decide +kernel
theorem dX7_written_13 : decode cX7_written 13 = .ok (.iload_n 3, 1) := by decide +kernel
theorem dX7_written_14 : decode cX7_written 14 = .ok (.invokevirtual 64, 3) := by decide +kernel
theorem dX7_written_17 : decode cX7_written 17 = .ok (.ifCond .eq 7, 3) := by decide +kernel
theorem dX7_written_20 : decode cX7_written 20 = .ok (.iconst 1, 1) := by decide +kernel
theorem dX7_written_21 : decode cX7_written 21 = .ok (.goto 4, 3) := by decide +kernel
theorem dX7_written_24 : decode cX7_written 24 = .ok (.iconst 0, 1) := by decide +kernel
theorem dX7_written_25 : decode cX7_written 25 = .ok (.iadd, 1) := by decide +kernel
theorem dX7_written_26 : decode cX7_written 26 = .ok (.istore_n 2, 1) := by decide +kernel
theorem dX7_written_27 : decode cX7_written 27 = .ok (.iinc 3 1, 3) := by decide +kernel
theorem dX7_written_30 : decode cX7_written 30 = .ok (.goto (-26), 3) := by decide +kernel
theorem dX7_written_33 : decode cX7_written 33 = .ok (.iload_n 2, 1) := by decide +kernel
theorem dX7_written_34 : decode cX7_written 34 = .ok (.ireturn, 1) := by decide +kernel
theorem dX7_isVersion_0 : decode cX7_isVersion 0 = .ok (.aload_n 0, 1) := by decide +kernel
theorem dX7_isVersion_1 : decode cX7_isVersion 1 = .ok (.iload_n 1, 1) := by decide +kernel
theorem dX7_isVersion_2 : decode cX7_isVersion 2 = .ok (.iconst 1, 1) := by decide +kernel
theorem dX7_isVersion_3 : decode cX7_isVersion 3 = .ok (.invokevirtual 61, 3) := by decide +kernel
theorem dX7_isVersion_6 : decode cX7_isVersion 6 = .ok (.iconst 2, 1) := by decide +kernel
theorem dX7_isVersion_7 : decode cX7_isVersion 7 = .ok (.if_icmp .ne 16, 3) := by decide +kernel
theorem dX7_isVersion_10 : decode cX7_isVersion 10 = .ok (.aload_n 0, 1) := by decide +kernel
theorem dX7_isVersion_11 : decode cX7_isVersion 11 = .ok (.iload_n 1, 1) := by decide +kernel
theorem dX7_isVersion_12 : decode cX7_isVersion 12 = .ok (.iload_n 2, 1) := by decide +kernel
theorem dX7_isVersion_13 : decode cX7_isVersion 13 = .ok (.invokevirtual 64, 3) := by decide +kernel
theorem dX7_isVersion_16 : decode cX7_isVersion 16 = .ok (.ifCond .eq 7, 3) := by decide +kernel
theorem dX7_isVersion_19 : decode cX7_isVersion 19 = .ok (.iconst 1, 1) := by decide +kernel
theorem dX7_isVersion_20 : decode cX7_isVersion 20 = .ok (.goto 4, 3) := by decide +kernel
theorem dX7_isVersion_23 : decode cX7_isVersion 23 = .ok (.iconst 0, 1) := by decide +kernel
theorem dX7_isVersion_24 : decode cX7_isVersion 24 = .ok (.ireturn, 1) := by decide +kernel
theorem dX7_writer_0 : decode cX7_writer 0 = .ok (.iconst (-1), 1) := by decide +kernel
theorem dX7_writer_1 : decode cX7_writer 1 = .ok (.istore_n 3, 1) := by decide +kernel
theorem dX7_writer_2 : decode cX7_writer 2 = .ok (.iconst 0, 1) := by decide +kernel
theorem dX7_writer_3 : decode cX7_writer 3 = .ok (.istore 4, 2) := by decide +kernel
theorem dX7_writer_5 : decode cX7_writer 5 = .ok (.iload 4, 2) := by decide +kernel
theorem dX7_writer_7 : decode cX7_writer 7 = .ok (.aload_n 0, 1) := by decide +kernel
theorem dX7_writer_8 : decode cX7_writer 8 = .ok (.getfield 7, 3) := by decide +kernel
theorem dX7_writer_11 : decode cX7_writer 11 = .ok (.iconst 3, 1) := by decide +kernel
theorem dX7_writer_12 : decode cX7_writer 12 = .ok (.iaload, 1) := by decide +kernel
theorem dX7_writer_13 : decode cX7_writer 13 = .ok (.if_icmp .ge 54, 3) := by decide +kernel
theorem dX7_writer_16 : decode cX7_writer 16 = .ok (.aload_n 0, 1) := by decide +kernel
theorem dX7_writer_17 : decode cX7_writer 17 = .ok (.iload 4, 2) := by decide +kernel
theorem dX7_writer_19 : decode cX7_writer 19 = .ok (.iload_n 1, 1) := by decide +kernel
theorem dX7_writer_20 : decode cX7_writer 20 = .ok (.invokevirtual 67, 3) := by decide +kernel
theorem dX7_writer_23 : decode cX7_writer 23 = .ok (.ifCond .eq 38, 3) := by decide +kernel
theorem dX7_writer_26 : decode cX7_writer 26 = .ok (.aload_n 0, 1) := by decide +kernel
theorem dX7_writer_27 : decode cX7_writer 27 = .ok (.iload 4, 2) := by decide +kernel
theorem dX7_writer_29 : decode cX7_writer 29 = .ok (.iconst 2, 1) := by decide +kernel
theorem dX7_writer_30 : decode cX7_writer 30 = .ok (.invokevirtual 61, 3) := by decide +kernel
theorem dX7_writer_33 : decode cX7_writer 33 = .ok (.iload_n 2, 1) := by decide +kernel
theorem dX7_writer_34 : decode cX7_writer 34 = .ok (.if_icmp .gt 27, 3) := by decide +kernel
theorem dX7_writer_37 : decode cX7_writer 37 = .ok (.iload_n 3, 1) := by decide +kernel
theorem dX7_writer_38 : decode cX7_writer 38 = .ok (.iconst (-1), 1) := by decide +kernel
theorem dX7_writer_39 : decode cX7_writer 39 = .ok (.if_icmp .eq 19, 3) := by decide +kernel
theorem dX7_writer_42 : decode cX7_writer 42 = .ok (.aload_n 0, 1) := by decide +kernel
theorem dX7_writer_43 : decode cX7_writer 43 = .ok (.iload 4, 2) := by decide +kernel
theorem dX7_writer_45 : decode cX7_writer 45 = .ok (.iconst 2, 1) := by decide +kernel
theorem dX7_writer_46 : decode cX7_writer 46 = .ok (.invokevirtual 61, 3) := by decide +kernel
theorem dX7_writer_49 : decode cX7_writer 49 = .ok (.aload_n 0, 1) := by decide +kernel
theorem dX7_writer_50 : decode cX7_writer 50 = .ok (.iload_n 3, 1) := by decide +kernel
theorem dX7_writer_51 : decode cX7_writer 51 = .ok (.iconst 2, 1) := by decide +kernel
theorem dX7_writer_52 : decode cX7_writer 52 = .ok (.invokevirtual 61, 3) := by decide +kernel
theorem dX7_writer_55 : decode cX7_writer 55 = .ok (.if_icmp .le 6, 3) := by decide +kernel
theorem dX7_writer_58 : decode cX7_writer 58 = .ok (.iload 4, 2) := by decide +kernel
theorem dX7_writer_60 : decode cX7_writer 60 = .ok (.istore_n 3, 1) := by decide +kernel
theorem dX7_writer_61 : decode cX7_writer 61 = .ok (.iinc 4 1, 3) := by decide +kernel
theorem dX7_writer_64 : decode cX7_writer 64 = .ok (.goto (-59), 3) := by decide +kernel
theorem dX7_writer_67 : decode cX7_writer 67 = .ok (.iload_n 3, 1) := by decide +kernel
theorem dX7_writer_68 : decode cX7_writer 68 = .ok (.ireturn, 1) := by decide +kernel
theorem dX7_value_0 : decode cX7_value 0 = .ok (.aload_n 0, 1) := by decide +kernel
theorem dX7_value_1 : decode cX7_value 1 = .ok (.iload_n 1, 1) := by decide +kernel
theorem dX7_value_2 : decode cX7_value 2 = .ok (.iload_n 2, 1) := by decide +kernel
theorem dX7_value_3 : decode cX7_value 3 = .ok (.invokevirtual 70, 3) := by decide +kernel
theorem dX7_value_6 : decode cX7_value 6 = .ok (.istore_n 3, 1) := by decide +kernel
theorem dX7_value_7 : decode cX7_value 7 = .ok (.iload_n 3, 1) := by decide +kernel
theorem dX7_value_8 : decode cX7_value 8 = .ok (.iconst (-1), 1) := by decide +kernel
theorem dX7_value_9 : decode cX7_value 9 = .ok (.if_icmp .ne 7, 3) := by decide +kernel
theorem dX7_value_12 : decode cX7_value 12 = .ok (.iconst 0, 1) := by decide +kernel
theorem dX7_value_13 : decode cX7_value 13 = .ok (.goto 11, 3) := by decide +kernel
theorem dX7_value_16 : decode cX7_value 16 = .ok (.aload_n 0, 1) := by decide +kernel
theorem dX7_value_17 : decode cX7_value 17 = .ok (.iload_n 3, 1) := by decide +kernel
theorem dX7_value_18 : decode cX7_value 18 = .ok (.iconst 5, 1) := by decide +kernel
theorem dX7_value_19 : decode cX7_value 19 = .ok (.iload_n 1, 1) := by decide +kernel
theorem dX7_value_20 : decode cX7_value 20 = .ok (.iadd, 1) := by decide +kernel
theorem dX7_value_21 : decode cX7_value 21 = .ok (.invokevirtual 61, 3) := by decide +kernel
theorem dX7_value_24 : decode cX7_value 24 = .ok (.ireturn, 1) := by decide +kernel
theorem dX7_newest_0 : decode cX7_newest 0 = .ok (.aload_n 0, 1) := by decide +kernel
theorem dX7_newest_1 : decode cX7_newest 1 = .ok (.iload_n 1, 1) := by decide +kernel
theorem dX7_newest_2 : decode cX7_newest 2 = .ok (.ldc 73, 2) := by decide +kernel
theorem dX7_newest_4 : decode cX7_newest 4 = .ok (.invokevirtual 70, 3) := by decide +kernel
theorem dX7_newest_7 : decode cX7_newest 7 = .ok (.istore_n 2, 1) := by decide +kernel
theorem dX7_newest_8 : decode cX7_newest 8 = .ok (.iload_n 2, 1) := by decide +kernel
theorem dX7_newest_9 : decode cX7_newest 9 = .ok (.iconst (-1), 1) := by decide +kernel
theorem dX7_newest_10 : decode cX7_newest 10 = .ok (.if_icmp .ne 7, 3) := by decide +kernel
theorem dX7_newest_13 : decode cX7_newest 13 = .ok (.iconst 0, 1) := by decide +kernel
theorem dX7_newest_14 : decode cX7_newest 14 = .ok (.goto 9, 3) := by decide +kernel
theorem dX7_newest_17 : decode cX7_newest 17 = .ok (.aload_n 0, 1) := by decide +kernel
theorem dX7_newest_18 : decode cX7_newest 18 = .ok (.iload_n 2, 1) := by decide +kernel
theorem dX7_newest_19 : decode cX7_newest 19 = .ok (.iconst 2, 1) := by decide +kernel
theorem dX7_newest_20 : decode cX7_newest 20 = .ok (.invokevirtual 61, 3) := by decide +kernel
theorem dX7_newest_23 : decode cX7_newest 23 = .ok (.ireturn, 1) := by decide +kernel
theorem dX7_mark_0 : decode cX7_mark 0 = .ok (.iconst 0, 1) := by decide +kernel
theorem dX7_mark_1 : decode cX7_mark 1 = .ok (.istore_n 2, 1) := by decide +kernel
theorem dX7_mark_2 : decode cX7_mark 2 = .ok (.iconst 0, 1) := by decide +kernel
theorem dX7_mark_3 : decode cX7_mark 3 = .ok (.istore_n 3, 1) := by decide +kernel
theorem dX7_mark_4 : decode cX7_mark 4 = .ok (.iload_n 3, 1) := by decide +kernel
theorem dX7_mark_5 : decode cX7_mark 5 = .ok (.aload_n 0, 1) := by decide +kernel
theorem dX7_mark_6 : decode cX7_mark 6 = .ok (.getfield 7, 3) := by decide +kernel
theorem dX7_mark_9 : decode cX7_mark 9 = .ok (.iconst 3, 1) := by decide +kernel
theorem dX7_mark_10 : decode cX7_mark 10 = .ok (.iaload, 1) := by decide +kernel
theorem dX7_mark_11 : decode cX7_mark 11 = .ok (.if_icmp .ge 43, 3) := by decide +kernel
theorem dX7_mark_14 : decode cX7_mark 14 = .ok (.aload_n 0, 1) := by decide +kernel
theorem dX7_mark_15 : decode cX7_mark 15 = .ok (.iload_n 3, 1) := by decide +kernel
theorem dX7_mark_16 : decode cX7_mark 16 = .ok (.iconst 1, 1) := by decide +kernel
theorem dX7_mark_17 : decode cX7_mark 17 = .ok (.invokevirtual 61, 3) := by decide +kernel
theorem dX7_mark_20 : decode cX7_mark 20 = .ok (.iconst 2, 1) := by decide +kernel
theorem dX7_mark_21 : decode cX7_mark 21 = .ok (.if_icmp .ne 25, 3) := by decide +kernel
theorem dX7_mark_24 : decode cX7_mark 24 = .ok (.aload_n 0, 1) := by decide +kernel
theorem dX7_mark_25 : decode cX7_mark 25 = .ok (.iload_n 3, 1) := by decide +kernel
theorem dX7_mark_26 : decode cX7_mark 26 = .ok (.iload_n 1, 1) := by decide +kernel
theorem dX7_mark_27 : decode cX7_mark 27 = .ok (.invokevirtual 74, 3) := by decide +kernel
theorem dX7_mark_30 : decode cX7_mark 30 = .ok (.ifCond .eq 16, 3) := by decide +kernel
theorem dX7_mark_33 : decode cX7_mark 33 = .ok (.iload_n 2, 1) := by decide +kernel
theorem dX7_mark_34 : decode cX7_mark 34 = .ok (.aload_n 0, 1) := by decide +kernel
theorem dX7_mark_35 : decode cX7_mark 35 = .ok (.iload_n 3, 1) := by decide +kernel
theorem dX7_mark_36 : decode cX7_mark 36 = .ok (.iconst 2, 1) := by decide +kernel
theorem dX7_mark_37 : decode cX7_mark 37 = .ok (.invokevirtual 61, 3) := by decide +kernel
theorem dX7_mark_40 : decode cX7_mark 40 = .ok (.invokestatic 77, 3) := by decide +kernel
theorem dX7_mark_43 : decode cX7_mark 43 = .ok (.goto 4, 3) := by decide +kernel
theorem dX7_mark_46 : decode cX7_mark 46 = .ok (.iload_n 2, 1) := by decide +kernel
theorem dX7_mark_47 : decode cX7_mark 47 = .ok (.istore_n 2, 1) := by decide +kernel
theorem dX7_mark_48 : decode cX7_mark 48 = .ok (.iinc 3 1, 3) := by decide +kernel
theorem dX7_mark_51 : decode cX7_mark 51 = .ok (.goto (-47), 3) := by decide +kernel
theorem dX7_mark_54 : decode cX7_mark 54 = .ok (.iload_n 2, 1) := by decide +kernel
theorem dX7_mark_55 : decode cX7_mark 55 = .ok (.ireturn, 1) := by decide +kernel
theorem dX7_isConflict_0 : decode cX7_isConflict 0 = .ok (.iconst 0, 1) := by decide +kernel
theorem dX7_isConflict_1 : decode cX7_isConflict 1 = .ok (.istore_n 2, 1) := by decide +kernel
theorem dX7_isConflict_2 : decode cX7_isConflict 2 = .ok (.iconst 0, 1) := by decide +kernel
theorem dX7_isConflict_3 : decode cX7_isConflict 3 = .ok (.istore_n 3, 1) := by decide +kernel
theorem dX7_isConflict_4 : decode cX7_isConflict 4 = .ok (.iload_n 3, 1) := by decide +kernel
theorem dX7_isConflict_5 : decode cX7_isConflict 5 = .ok (.bipush 8, 2) := by decide +kernel
theorem dX7_isConflict_7 : decode cX7_isConflict 7 = .ok (.if_icmp .ge 45, 3) := by decide +kernel
theorem dX7_isConflict_10 : decode cX7_isConflict 10 = .ok (.iload_n 2, 1) := by decide +kernel
theorem dX7_isConflict_11 : decode cX7_isConflict 11 = .ok (.ifCond .ne 29, 3) := by decide +kernel
theorem dX7_isConflict_14 : decode cX7_isConflict 14 = .ok (.aload_n 0, 1) := by decide +kernel
theorem dX7_isConflict_15 : decode cX7_isConflict 15 = .ok (.iload_n 1, 1) := by decide +kernel
theorem dX7_isConflict_16 : decode cX7_isConflict 16 = .ok (.iload_n 3, 1) := by decide +kernel
theorem dX7_isConflict_17 : decode cX7_isConflict 17 = .ok (.invokevirtual 74, 3) := by decide +kernel
theorem dX7_isConflict_20 : decode cX7_isConflict 20 = .ok (.ifCond .eq 24, 3) := by decide +kernel
theorem dX7_isConflict_23 : decode cX7_isConflict 23 = .ok (.aload_n 0, 1) := by decide +kernel
theorem dX7_isConflict_24 : decode cX7_isConflict 24 = .ok (.iload_n 3, 1) := by decide +kernel
theorem dX7_isConflict_25 : decode cX7_isConflict 25 = .ok (.invokevirtual 80, 3) := by decide +kernel
theorem dX7_isConflict_28 : decode cX7_isConflict 28 = .ok (.aload_n 0, 1) := by decide +kernel
theorem dX7_isConflict_29 : decode cX7_isConflict 29 = .ok (.iload_n 1, 1) := by decide +kernel
theorem dX7_isConflict_30 : decode cX7_isConflict 30 = .ok (.bipush 13, 2) := by decide +kernel
theorem dX7_isConflict_32 : decode cX7_isConflict 32 = .ok (.iload_n 3, 1) := by decide +kernel
theorem dX7_isConflict_33 : decode cX7_isConflict 33 = .ok (.iadd, 1) := by decide +kernel
theorem dX7_isConflict_34 : decode cX7_isConflict 34 = .ok (.invokevirtual 61, 3) := by decide +kernel
theorem dX7_isConflict_37 : decode cX7_isConflict 37 = .ok (.if_icmp .eq 7, 3) := by decide +kernel
theorem dX7_isConflict_40 : decode cX7_isConflict 40 = .ok (.iconst 1, 1) := by decide +kernel
theorem dX7_isConflict_41 : decode cX7_isConflict 41 = .ok (.goto 4, 3) := by decide +kernel
theorem dX7_isConflict_44 : decode cX7_isConflict 44 = .ok (.iconst 0, 1) := by decide +kernel
theorem dX7_isConflict_45 : decode cX7_isConflict 45 = .ok (.istore_n 2, 1) := by decide +kernel
theorem dX7_isConflict_46 : decode cX7_isConflict 46 = .ok (.iinc 3 1, 3) := by decide +kernel
theorem dX7_isConflict_49 : decode cX7_isConflict 49 = .ok (.goto (-45), 3) := by decide +kernel
theorem dX7_isConflict_52 : decode cX7_isConflict 52 = .ok (.iload_n 2, 1) := by decide +kernel
theorem dX7_isConflict_53 : decode cX7_isConflict 53 = .ok (.ireturn, 1) := by decide +kernel
theorem dX7_bars_0 : decode cX7_bars 0 = .ok (.iconst 0, 1) := by decide +kernel
theorem dX7_bars_1 : decode cX7_bars 1 = .ok (.istore_n 3, 1) := by decide +kernel
theorem dX7_bars_2 : decode cX7_bars 2 = .ok (.iconst 0, 1) := by decide +kernel
theorem dX7_bars_3 : decode cX7_bars 3 = .ok (.istore 4, 2) := by decide +kernel
theorem dX7_bars_5 : decode cX7_bars 5 = .ok (.iload 4, 2) := by decide +kernel
theorem dX7_bars_7 : decode cX7_bars 7 = .ok (.bipush 8, 2) := by decide +kernel
theorem dX7_bars_9 : decode cX7_bars 9 = .ok (.if_icmp .ge 81, 3) := by decide +kernel
theorem dX7_bars_12 : decode cX7_bars 12 = .ok (.aload_n 0, 1) := by decide +kernel
theorem dX7_bars_13 : decode cX7_bars 13 = .ok (.iload_n 2, 1) := by decide +kernel
theorem dX7_bars_14 : decode cX7_bars 14 = .ok (.iload 4, 2) := by decide +kernel
theorem dX7_bars_16 : decode cX7_bars 16 = .ok (.invokevirtual 74, 3) := by decide +kernel
theorem dX7_bars_19 : decode cX7_bars 19 = .ok (.ifCond .ne 13, 3) := by decide +kernel
theorem dX7_bars_22 : decode cX7_bars 22 = .ok (.aload_n 0, 1) := by decide +kernel
theorem dX7_bars_23 : decode cX7_bars 23 = .ok (.iload_n 2, 1) := by decide +kernel
theorem dX7_bars_24 : decode cX7_bars 24 = .ok (.iload 4, 2) := by decide +kernel
theorem dX7_bars_26 : decode cX7_bars 26 = .ok (.invokevirtual 64, 3) := by decide +kernel
theorem dX7_bars_29 : decode cX7_bars 29 = .ok (.ifCond .eq 7, 3) := by decide +kernel
theorem dX7_bars_32 : decode cX7_bars 32 = .ok (.iconst 1, 1) := by decide +kernel
theorem dX7_bars_33 : decode cX7_bars 33 = .ok (.goto 4, 3) := by decide +kernel
theorem dX7_bars_36 : decode cX7_bars 36 = .ok (.iconst 0, 1) := by decide +kernel
theorem dX7_bars_37 : decode cX7_bars 37 = .ok (.istore 5, 2) := by decide +kernel
theorem dX7_bars_39 : decode cX7_bars 39 = .ok (.iload_n 3, 1) := by decide +kernel
theorem dX7_bars_40 : decode cX7_bars 40 = .ok (.ifCond .ne 38, 3) := by decide +kernel
theorem dX7_bars_43 : decode cX7_bars 43 = .ok (.aload_n 0, 1) := by decide +kernel
theorem dX7_bars_44 : decode cX7_bars 44 = .ok (.iload_n 1, 1) := by decide +kernel
theorem dX7_bars_45 : decode cX7_bars 45 = .ok (.iload 4, 2) := by decide +kernel
theorem dX7_bars_47 : decode cX7_bars 47 = .ok (.invokevirtual 64, 3) := by decide +kernel
theorem dX7_bars_50 : decode cX7_bars 50 = .ok (.ifCond .eq 8, 3) := by decide +kernel
theorem dX7_bars_53 : decode cX7_bars 53 = .ok (.iload 5, 2) := by decide +kernel
theorem dX7_bars_55 : decode cX7_bars 55 = .ok (.ifCond .ne 23, 3) := by decide +kernel
theorem dX7_bars_58 : decode cX7_bars 58 = .ok (.aload_n 0, 1) := by decide +kernel
theorem dX7_bars_59 : decode cX7_bars 59 = .ok (.iload_n 1, 1) := by decide +kernel
theorem dX7_bars_60 : decode cX7_bars 60 = .ok (.iload 4, 2) := by decide +kernel
theorem dX7_bars_62 : decode cX7_bars 62 = .ok (.invokevirtual 74, 3) := by decide +kernel
theorem dX7_bars_65 : decode cX7_bars 65 = .ok (.ifCond .eq 17, 3) := by decide +kernel
theorem dX7_bars_68 : decode cX7_bars 68 = .ok (.aload_n 0, 1) := by decide +kernel
theorem dX7_bars_69 : decode cX7_bars 69 = .ok (.iload_n 2, 1) := by decide +kernel
theorem dX7_bars_70 : decode cX7_bars 70 = .ok (.iload 4, 2) := by decide +kernel
theorem dX7_bars_72 : decode cX7_bars 72 = .ok (.invokevirtual 64, 3) := by decide +kernel
theorem dX7_bars_75 : decode cX7_bars 75 = .ok (.ifCond .eq 7, 3) := by decide +kernel
theorem dX7_bars_78 : decode cX7_bars 78 = .ok (.iconst 1, 1) := by decide +kernel
theorem dX7_bars_79 : decode cX7_bars 79 = .ok (.goto 4, 3) := by decide +kernel
theorem dX7_bars_82 : decode cX7_bars 82 = .ok (.iconst 0, 1) := by decide +kernel
theorem dX7_bars_83 : decode cX7_bars 83 = .ok (.istore_n 3, 1) := by decide +kernel
theorem dX7_bars_84 : decode cX7_bars 84 = .ok (.iinc 4 1, 3) := by decide +kernel
theorem dX7_bars_87 : decode cX7_bars 87 = .ok (.goto (-82), 3) := by decide +kernel
theorem dX7_bars_90 : decode cX7_bars 90 = .ok (.iload_n 3, 1) := by decide +kernel
theorem dX7_bars_91 : decode cX7_bars 91 = .ok (.ireturn, 1) := by decide +kernel
theorem dX7_isLocked_0 : decode cX7_isLocked 0 = .ok (.iconst 0, 1) := by decide +kernel
theorem dX7_isLocked_1 : decode cX7_isLocked 1 = .ok (.istore_n 2, 1) := by decide +kernel
theorem dX7_isLocked_2 : decode cX7_isLocked 2 = .ok (.iconst 0, 1) := by decide +kernel
theorem dX7_isLocked_3 : decode cX7_isLocked 3 = .ok (.istore_n 3, 1) := by decide +kernel
theorem dX7_isLocked_4 : decode cX7_isLocked 4 = .ok (.iload_n 3, 1) := by decide +kernel
theorem dX7_isLocked_5 : decode cX7_isLocked 5 = .ok (.aload_n 0, 1) := by decide +kernel
theorem dX7_isLocked_6 : decode cX7_isLocked 6 = .ok (.getfield 7, 3) := by decide +kernel
theorem dX7_isLocked_9 : decode cX7_isLocked 9 = .ok (.iconst 3, 1) := by decide +kernel
theorem dX7_isLocked_10 : decode cX7_isLocked 10 = .ok (.iaload, 1) := by decide +kernel
theorem dX7_isLocked_11 : decode cX7_isLocked 11 = .ok (.if_icmp .ge 38, 3) := by decide +kernel
theorem dX7_isLocked_14 : decode cX7_isLocked 14 = .ok (.iload_n 2, 1) := by decide +kernel
theorem dX7_isLocked_15 : decode cX7_isLocked 15 = .ok (.ifCond .ne 22, 3) := by decide +kernel
theorem dX7_isLocked_18 : decode cX7_isLocked 18 = .ok (.aload_n 0, 1) := by decide +kernel
theorem dX7_isLocked_19 : decode cX7_isLocked 19 = .ok (.iload_n 3, 1) := by decide +kernel
theorem dX7_isLocked_20 : decode cX7_isLocked 20 = .ok (.iconst 1, 1) := by decide +kernel
theorem dX7_isLocked_21 : decode cX7_isLocked 21 = .ok (.invokevirtual 61, 3) := by decide +kernel
theorem dX7_isLocked_24 : decode cX7_isLocked 24 = .ok (.iconst 1, 1) := by decide +kernel
theorem dX7_isLocked_25 : decode cX7_isLocked 25 = .ok (.if_icmp .ne 16, 3) := by decide +kernel
theorem dX7_isLocked_28 : decode cX7_isLocked 28 = .ok (.aload_n 0, 1) := by decide +kernel
theorem dX7_isLocked_29 : decode cX7_isLocked 29 = .ok (.iload_n 3, 1) := by decide +kernel
theorem dX7_isLocked_30 : decode cX7_isLocked 30 = .ok (.iload_n 1, 1) := by decide +kernel
theorem dX7_isLocked_31 : decode cX7_isLocked 31 = .ok (.invokevirtual 83, 3) := by decide +kernel
theorem dX7_isLocked_34 : decode cX7_isLocked 34 = .ok (.ifCond .eq 7, 3) := by decide +kernel
theorem dX7_isLocked_37 : decode cX7_isLocked 37 = .ok (.iconst 1, 1) := by decide +kernel
theorem dX7_isLocked_38 : decode cX7_isLocked 38 = .ok (.goto 4, 3) := by decide +kernel
theorem dX7_isLocked_41 : decode cX7_isLocked 41 = .ok (.iconst 0, 1) := by decide +kernel
theorem dX7_isLocked_42 : decode cX7_isLocked 42 = .ok (.istore_n 2, 1) := by decide +kernel
theorem dX7_isLocked_43 : decode cX7_isLocked 43 = .ok (.iinc 3 1, 3) := by decide +kernel
theorem dX7_isLocked_46 : decode cX7_isLocked 46 = .ok (.goto (-42), 3) := by decide +kernel
theorem dX7_isLocked_49 : decode cX7_isLocked 49 = .ok (.iload_n 2, 1) := by decide +kernel
theorem dX7_isLocked_50 : decode cX7_isLocked 50 = .ok (.ireturn, 1) := by decide +kernel
theorem dX7_stamp_0 : decode cX7_stamp 0 = .ok (.aload_n 0, 1) := by decide +kernel
theorem dX7_stamp_1 : decode cX7_stamp 1 = .ok (.iload_n 1, 1) := by decide +kernel
theorem dX7_stamp_2 : decode cX7_stamp 2 = .ok (.iconst 0, 1) := by decide +kernel
theorem dX7_stamp_3 : decode cX7_stamp 3 = .ok (.invokevirtual 61, 3) := by decide +kernel
theorem dX7_stamp_6 : decode cX7_stamp 6 = .ok (.istore_n 2, 1) := by decide +kernel
theorem dX7_stamp_7 : decode cX7_stamp 7 = .ok (.aload_n 0, 1) := by decide +kernel
theorem dX7_stamp_8 : decode cX7_stamp 8 = .ok (.iload_n 2, 1) := by decide +kernel
theorem dX7_stamp_9 : decode cX7_stamp 9 = .ok (.aload_n 0, 1) := by decide +kernel
theorem dX7_stamp_10 : decode cX7_stamp 10 = .ok (.getfield 7, 3) := by decide +kernel
theorem dX7_stamp_13 : decode cX7_stamp 13 = .ok (.iconst 0, 1) := by decide +kernel
theorem dX7_stamp_14 : decode cX7_stamp 14 = .ok (.iaload, 1) := by decide +kernel
theorem dX7_stamp_15 : decode cX7_stamp 15 = .ok (.invokevirtual 86, 3) := by decide +kernel
theorem dX7_stamp_18 : decode cX7_stamp 18 = .ok (.iconst 0, 1) := by decide +kernel
theorem dX7_stamp_19 : decode cX7_stamp 19 = .ok (.invokestatic 77, 3) := by decide +kernel
theorem dX7_stamp_22 : decode cX7_stamp 22 = .ok (.istore_n 3, 1) := by decide +kernel
theorem dX7_stamp_23 : decode cX7_stamp 23 = .ok (.iconst 0, 1) := by decide +kernel
theorem dX7_stamp_24 : decode cX7_stamp 24 = .ok (.istore 4, 2) := by decide +kernel
theorem dX7_stamp_26 : decode cX7_stamp 26 = .ok (.iload 4, 2) := by decide +kernel
theorem dX7_stamp_28 : decode cX7_stamp 28 = .ok (.bipush 8, 2) := by decide +kernel
theorem dX7_stamp_30 : decode cX7_stamp 30 = .ok (.if_icmp .ge 65, 3) := by decide +kernel
theorem dX7_stamp_33 : decode cX7_stamp 33 = .ok (.aload_n 0, 1) := by decide +kernel
theorem dX7_stamp_34 : decode cX7_stamp 34 = .ok (.iload_n 1, 1) := by decide +kernel
theorem dX7_stamp_35 : decode cX7_stamp 35 = .ok (.iload 4, 2) := by decide +kernel
theorem dX7_stamp_37 : decode cX7_stamp 37 = .ok (.invokevirtual 74, 3) := by decide +kernel
theorem dX7_stamp_40 : decode cX7_stamp 40 = .ok (.ifCond .ne 13, 3) := by decide +kernel
theorem dX7_stamp_43 : decode cX7_stamp 43 = .ok (.aload_n 0, 1) := by decide +kernel
theorem dX7_stamp_44 : decode cX7_stamp 44 = .ok (.iload_n 1, 1) := by decide +kernel
theorem dX7_stamp_45 : decode cX7_stamp 45 = .ok (.iload 4, 2) := by decide +kernel
theorem dX7_stamp_47 : decode cX7_stamp 47 = .ok (.invokevirtual 64, 3) := by decide +kernel
theorem dX7_stamp_50 : decode cX7_stamp 50 = .ok (.ifCond .eq 16, 3) := by decide +kernel
theorem dX7_stamp_53 : decode cX7_stamp 53 = .ok (.iload_n 3, 1) := by decide +kernel
theorem dX7_stamp_54 : decode cX7_stamp 54 = .ok (.iconst 1, 1) := by decide +kernel
theorem dX7_stamp_55 : decode cX7_stamp 55 = .ok (.aload_n 0, 1) := by decide +kernel
theorem dX7_stamp_56 : decode cX7_stamp 56 = .ok (.iload 4, 2) := by decide +kernel
theorem dX7_stamp_58 : decode cX7_stamp 58 = .ok (.invokevirtual 80, 3) := by decide +kernel
theorem dX7_stamp_61 : decode cX7_stamp 61 = .ok (.iadd, 1) := by decide +kernel
theorem dX7_stamp_62 : decode cX7_stamp 62 = .ok (.invokestatic 77, 3) := by decide +kernel
theorem dX7_stamp_65 : decode cX7_stamp 65 = .ok (.istore_n 3, 1) := by decide +kernel
theorem dX7_stamp_66 : decode cX7_stamp 66 = .ok (.aload_n 0, 1) := by decide +kernel
theorem dX7_stamp_67 : decode cX7_stamp 67 = .ok (.iload_n 1, 1) := by decide +kernel
theorem dX7_stamp_68 : decode cX7_stamp 68 = .ok (.iload 4, 2) := by decide +kernel
theorem dX7_stamp_70 : decode cX7_stamp 70 = .ok (.invokevirtual 64, 3) := by decide +kernel
theorem dX7_stamp_73 : decode cX7_stamp 73 = .ok (.ifCond .eq 16, 3) := by decide +kernel
theorem dX7_stamp_76 : decode cX7_stamp 76 = .ok (.iload_n 3, 1) := by decide +kernel
theorem dX7_stamp_77 : decode cX7_stamp 77 = .ok (.iconst 1, 1) := by decide +kernel
theorem dX7_stamp_78 : decode cX7_stamp 78 = .ok (.aload_n 0, 1) := by decide +kernel
theorem dX7_stamp_79 : decode cX7_stamp 79 = .ok (.iload 4, 2) := by decide +kernel
theorem dX7_stamp_81 : decode cX7_stamp 81 = .ok (.invokevirtual 89, 3) := by decide +kernel
theorem dX7_stamp_84 : decode cX7_stamp 84 = .ok (.iadd, 1) := by decide +kernel
theorem dX7_stamp_85 : decode cX7_stamp 85 = .ok (.invokestatic 77, 3) := by decide +kernel
theorem dX7_stamp_88 : decode cX7_stamp 88 = .ok (.istore_n 3, 1) := by decide +kernel
theorem dX7_stamp_89 : decode cX7_stamp 89 = .ok (.iinc 4 1, 3) := by decide +kernel
theorem dX7_stamp_92 : decode cX7_stamp 92 = .ok (.goto (-66), 3) := by decide +kernel
theorem dX7_stamp_95 : decode cX7_stamp 95 = .ok (.iload_n 3, 1) := by decide +kernel
theorem dX7_stamp_96 : decode cX7_stamp 96 = .ok (.ireturn, 1) := by decide +kernel
theorem dX7_outcome_0 : decode cX7_outcome 0 = .ok (.aload_n 0, 1) := by decide +kernel
theorem dX7_outcome_1 : decode cX7_outcome 1 = .ok (.iload_n 1, 1) := by decide +kernel
theorem dX7_outcome_2 : decode cX7_outcome 2 = .ok (.invokevirtual 92, 3) := by decide +kernel
theorem dX7_outcome_5 : decode cX7_outcome 5 = .ok (.ifCond .eq 6, 3) := by decide +kernel
theorem dX7_outcome_8 : decode cX7_outcome 8 = .ok (.bipush (-2), 2) := by decide +kernel
theorem dX7_outcome_10 : decode cX7_outcome 10 = .ok (.ireturn, 1) := by decide +kernel
theorem dX7_outcome_11 : decode cX7_outcome 11 = .ok (.aload_n 0, 1) := by decide +kernel
theorem dX7_outcome_12 : decode cX7_outcome 12 = .ok (.iload_n 1, 1) := by decide +kernel
theorem dX7_outcome_13 : decode cX7_outcome 13 = .ok (.invokevirtual 96, 3) := by decide +kernel
theorem dX7_outcome_16 : decode cX7_outcome 16 = .ok (.ifCond .eq 8, 3) := by decide +kernel
theorem dX7_outcome_19 : decode cX7_outcome 19 = .ok (.bipush (-3), 2) := by decide +kernel
theorem dX7_outcome_21 : decode cX7_outcome 21 = .ok (.goto 8, 3) := by decide +kernel
theorem dX7_outcome_24 : decode cX7_outcome 24 = .ok (.aload_n 0, 1) := by decide +kernel
theorem dX7_outcome_25 : decode cX7_outcome 25 = .ok (.iload_n 1, 1) := by decide +kernel
theorem dX7_outcome_26 : decode cX7_outcome 26 = .ok (.invokevirtual 99, 3) := by decide +kernel
theorem dX7_outcome_29 : decode cX7_outcome 29 = .ok (.ireturn, 1) := by decide +kernel
theorem dX7_next_0 : decode cX7_next 0 = .ok (.iconst 1, 1) := by decide +kernel
theorem dX7_next_1 : decode cX7_next 1 = .ok (.aload_n 0, 1) := by decide +kernel
theorem dX7_next_2 : decode cX7_next 2 = .ok (.getfield 7, 3) := by decide +kernel
theorem dX7_next_5 : decode cX7_next 5 = .ok (.iconst 4, 1) := by decide +kernel
theorem dX7_next_6 : decode cX7_next 6 = .ok (.iload_n 1, 1) := by decide +kernel
theorem dX7_next_7 : decode cX7_next 7 = .ok (.iadd, 1) := by decide +kernel
theorem dX7_next_8 : decode cX7_next 8 = .ok (.iaload, 1) := by decide +kernel
theorem dX7_next_9 : decode cX7_next 9 = .ok (.aload_n 0, 1) := by decide +kernel
theorem dX7_next_10 : decode cX7_next 10 = .ok (.getfield 7, 3) := by decide +kernel
theorem dX7_next_13 : decode cX7_next 13 = .ok (.iconst 1, 1) := by decide +kernel
theorem dX7_next_14 : decode cX7_next 14 = .ok (.iaload, 1) := by decide +kernel
theorem dX7_next_15 : decode cX7_next 15 = .ok (.invokestatic 77, 3) := by decide +kernel
theorem dX7_next_18 : decode cX7_next 18 = .ok (.iadd, 1) := by decide +kernel
theorem dX7_next_19 : decode cX7_next 19 = .ok (.istore_n 3, 1) := by decide +kernel
theorem dX7_next_20 : decode cX7_next 20 = .ok (.aload_n 0, 1) := by decide +kernel
theorem dX7_next_21 : decode cX7_next 21 = .ok (.iload_n 1, 1) := by decide +kernel
theorem dX7_next_22 : decode cX7_next 22 = .ok (.iload_n 2, 1) := by decide +kernel
theorem dX7_next_23 : decode cX7_next 23 = .ok (.invokevirtual 54, 3) := by decide +kernel
theorem dX7_next_26 : decode cX7_next 26 = .ok (.iload_n 3, 1) := by decide +kernel
theorem dX7_next_27 : decode cX7_next 27 = .ok (.invokestatic 77, 3) := by decide +kernel
theorem dX7_next_30 : decode cX7_next 30 = .ok (.ireturn, 1) := by decide +kernel
theorem dX7_whyNotBegin_0 : decode cX7_whyNotBegin 0 = .ok (.iload_n 1, 1) := by decide +kernel
theorem dX7_whyNotBegin_1 : decode cX7_whyNotBegin 1 = .ok (.invokestatic 102, 3) := by decide +kernel
theorem dX7_whyNotBegin_4 : decode cX7_whyNotBegin 4 = .ok (.ifCond .ne 7, 3) := by decide +kernel
theorem dX7_whyNotBegin_7 : decode cX7_whyNotBegin 7 = .ok (.iconst 1, 1) := by decide +kernel
theorem dX7_whyNotBegin_8 : decode cX7_whyNotBegin 8 = .ok (.goto 19, 3) := by decide +kernel
theorem dX7_whyNotBegin_11 : decode cX7_whyNotBegin 11 = .ok (.aload_n 0, 1) := by decide +kernel
theorem dX7_whyNotBegin_12 : decode cX7_whyNotBegin 12 = .ok (.getfield 7, 3) := by decide +kernel
theorem dX7_whyNotBegin_15 : decode cX7_whyNotBegin 15 = .ok (.iconst 3, 1) := by decide +kernel
theorem dX7_whyNotBegin_16 : decode cX7_whyNotBegin 16 = .ok (.iaload, 1) := by decide +kernel
theorem dX7_whyNotBegin_17 : decode cX7_whyNotBegin 17 = .ok (.bipush 40, 2) := by decide +kernel
theorem dX7_whyNotBegin_19 : decode cX7_whyNotBegin 19 = .ok (.if_icmp .ne 7, 3) := by decide +kernel
theorem dX7_whyNotBegin_22 : decode cX7_whyNotBegin 22 = .ok (.iconst 2, 1) := by decide +kernel
theorem dX7_whyNotBegin_23 : decode cX7_whyNotBegin 23 = .ok (.goto 4, 3) := by decide +kernel
theorem dX7_whyNotBegin_26 : decode cX7_whyNotBegin 26 = .ok (.iconst 0, 1) := by decide +kernel
theorem dX7_whyNotBegin_27 : decode cX7_whyNotBegin 27 = .ok (.ireturn, 1) := by decide +kernel
theorem dX7_whyNot_0 : decode cX7_whyNot 0 = .ok (.aload_n 0, 1) := by decide +kernel
theorem dX7_whyNot_1 : decode cX7_whyNot 1 = .ok (.iload_n 1, 1) := by decide +kernel
theorem dX7_whyNot_2 : decode cX7_whyNot 2 = .ok (.invokevirtual 105, 3) := by decide +kernel
theorem dX7_whyNot_5 : decode cX7_whyNot 5 = .ok (.ifCond .ne 7, 3) := by decide +kernel
theorem dX7_whyNot_8 : decode cX7_whyNot 8 = .ok (.iconst 1, 1) := by decide +kernel
theorem dX7_whyNot_9 : decode cX7_whyNot 9 = .ok (.goto 17, 3) := by decide +kernel
theorem dX7_whyNot_12 : decode cX7_whyNot 12 = .ok (.aload_n 0, 1) := by decide +kernel
theorem dX7_whyNot_13 : decode cX7_whyNot 13 = .ok (.iload_n 1, 1) := by decide +kernel
theorem dX7_whyNot_14 : decode cX7_whyNot 14 = .ok (.iconst 1, 1) := by decide +kernel
theorem dX7_whyNot_15 : decode cX7_whyNot 15 = .ok (.invokevirtual 61, 3) := by decide +kernel
theorem dX7_whyNot_18 : decode cX7_whyNot 18 = .ok (.ifCond .eq 7, 3) := by decide +kernel
theorem dX7_whyNot_21 : decode cX7_whyNot 21 = .ok (.iconst 2, 1) := by decide +kernel
theorem dX7_whyNot_22 : decode cX7_whyNot 22 = .ok (.goto 4, 3) := by decide +kernel
theorem dX7_whyNot_25 : decode cX7_whyNot 25 = .ok (.iconst 0, 1) := by decide +kernel
theorem dX7_whyNot_26 : decode cX7_whyNot 26 = .ok (.ireturn, 1) := by decide +kernel
theorem dX7_whyNotRead_0 : decode cX7_whyNotRead 0 = .ok (.iload_n 2, 1) := by decide +kernel
theorem dX7_whyNotRead_1 : decode cX7_whyNotRead 1 = .ok (.invokestatic 108, 3) := by decide +kernel
theorem dX7_whyNotRead_4 : decode cX7_whyNotRead 4 = .ok (.ifCond .ne 7, 3) := by decide +kernel
theorem dX7_whyNotRead_7 : decode cX7_whyNotRead 7 = .ok (.iconst 1, 1) := by decide +kernel
theorem dX7_whyNotRead_8 : decode cX7_whyNotRead 8 = .ok (.goto 8, 3) := by decide +kernel
theorem dX7_whyNotRead_11 : decode cX7_whyNotRead 11 = .ok (.aload_n 0, 1) := by decide +kernel
theorem dX7_whyNotRead_12 : decode cX7_whyNotRead 12 = .ok (.iload_n 1, 1) := by decide +kernel
theorem dX7_whyNotRead_13 : decode cX7_whyNotRead 13 = .ok (.invokevirtual 111, 3) := by decide +kernel
theorem dX7_whyNotRead_16 : decode cX7_whyNotRead 16 = .ok (.ireturn, 1) := by decide +kernel
theorem dX7_whyNotWrite_0 : decode cX7_whyNotWrite 0 = .ok (.aload_n 0, 1) := by decide +kernel
theorem dX7_whyNotWrite_1 : decode cX7_whyNotWrite 1 = .ok (.iload_n 1, 1) := by decide +kernel
theorem dX7_whyNotWrite_2 : decode cX7_whyNotWrite 2 = .ok (.invokevirtual 105, 3) := by decide +kernel
theorem dX7_whyNotWrite_5 : decode cX7_whyNotWrite 5 = .ok (.ifCond .eq 10, 3) := by decide +kernel
theorem dX7_whyNotWrite_8 : decode cX7_whyNotWrite 8 = .ok (.iload_n 2, 1) := by decide +kernel
theorem dX7_whyNotWrite_9 : decode cX7_whyNotWrite 9 = .ok (.invokestatic 108, 3) := by decide +kernel
theorem dX7_whyNotWrite_12 : decode cX7_whyNotWrite 12 = .ok (.ifCond .ne 5, 3) := by decide +kernel
theorem dX7_whyNotWrite_15 : decode cX7_whyNotWrite 15 = .ok (.iconst 1, 1) := by decide +kernel
theorem dX7_whyNotWrite_16 : decode cX7_whyNotWrite 16 = .ok (.ireturn, 1) := by decide +kernel
theorem dX7_whyNotWrite_17 : decode cX7_whyNotWrite 17 = .ok (.iload_n 3, 1) := by decide +kernel
theorem dX7_whyNotWrite_18 : decode cX7_whyNotWrite 18 = .ok (.iconst 0, 1) := by decide +kernel
theorem dX7_whyNotWrite_19 : decode cX7_whyNotWrite 19 = .ok (.sipush 9999, 3) := by decide +kernel
theorem dX7_whyNotWrite_22 : decode cX7_whyNotWrite 22 = .ok (.invokestatic 30, 3) := by decide +kernel
theorem dX7_whyNotWrite_25 : decode cX7_whyNotWrite 25 = .ok (.ifCond .ne 7, 3) := by decide +kernel
theorem dX7_whyNotWrite_28 : decode cX7_whyNotWrite 28 = .ok (.iconst 2, 1) := by decide +kernel
theorem dX7_whyNotWrite_29 : decode cX7_whyNotWrite 29 = .ok (.goto 17, 3) := by decide +kernel
theorem dX7_whyNotWrite_32 : decode cX7_whyNotWrite 32 = .ok (.aload_n 0, 1) := by decide +kernel
theorem dX7_whyNotWrite_33 : decode cX7_whyNotWrite 33 = .ok (.iload_n 1, 1) := by decide +kernel
theorem dX7_whyNotWrite_34 : decode cX7_whyNotWrite 34 = .ok (.iconst 1, 1) := by decide +kernel
theorem dX7_whyNotWrite_35 : decode cX7_whyNotWrite 35 = .ok (.invokevirtual 61, 3) := by decide +kernel
theorem dX7_whyNotWrite_38 : decode cX7_whyNotWrite 38 = .ok (.ifCond .eq 7, 3) := by decide +kernel
theorem dX7_whyNotWrite_41 : decode cX7_whyNotWrite 41 = .ok (.iconst 3, 1) := by decide +kernel
theorem dX7_whyNotWrite_42 : decode cX7_whyNotWrite 42 = .ok (.goto 4, 3) := by decide +kernel
theorem dX7_whyNotWrite_45 : decode cX7_whyNotWrite 45 = .ok (.iconst 0, 1) := by decide +kernel
theorem dX7_whyNotWrite_46 : decode cX7_whyNotWrite 46 = .ok (.ireturn, 1) := by decide +kernel
theorem dX7_whyNotAdvance_0 : decode cX7_whyNotAdvance 0 = .ok (.iload_n 1, 1) := by decide +kernel
theorem dX7_whyNotAdvance_1 : decode cX7_whyNotAdvance 1 = .ok (.iconst 1, 1) := by decide +kernel
theorem dX7_whyNotAdvance_2 : decode cX7_whyNotAdvance 2 = .ok (.sipush 1000, 3) := by decide +kernel
theorem dX7_whyNotAdvance_5 : decode cX7_whyNotAdvance 5 = .ok (.invokestatic 30, 3) := by decide +kernel
theorem dX7_whyNotAdvance_8 : decode cX7_whyNotAdvance 8 = .ok (.ifCond .ne 7, 3) := by decide +kernel
theorem dX7_whyNotAdvance_11 : decode cX7_whyNotAdvance 11 = .ok (.iconst 1, 1) := by decide +kernel
theorem dX7_whyNotAdvance_12 : decode cX7_whyNotAdvance 12 = .ok (.goto 21, 3) := by decide +kernel
theorem dX7_whyNotAdvance_15 : decode cX7_whyNotAdvance 15 = .ok (.aload_n 0, 1) := by decide +kernel
theorem dX7_whyNotAdvance_16 : decode cX7_whyNotAdvance 16 = .ok (.getfield 7, 3) := by decide +kernel
theorem dX7_whyNotAdvance_19 : decode cX7_whyNotAdvance 19 = .ok (.iconst 0, 1) := by decide +kernel
theorem dX7_whyNotAdvance_20 : decode cX7_whyNotAdvance 20 = .ok (.iaload, 1) := by decide +kernel
theorem dX7_whyNotAdvance_21 : decode cX7_whyNotAdvance 21 = .ok (.iload_n 1, 1) := by decide +kernel
theorem dX7_whyNotAdvance_22 : decode cX7_whyNotAdvance 22 = .ok (.iadd, 1) := by decide +kernel
theorem dX7_whyNotAdvance_23 : decode cX7_whyNotAdvance 23 = .ok (.ldc 114, 2) := by decide +kernel
theorem dX7_whyNotAdvance_25 : decode cX7_whyNotAdvance 25 = .ok (.if_icmp .le 7, 3) := by decide +kernel
theorem dX7_whyNotAdvance_28 : decode cX7_whyNotAdvance 28 = .ok (.iconst 2, 1) := by decide +kernel
theorem dX7_whyNotAdvance_29 : decode cX7_whyNotAdvance 29 = .ok (.goto 4, 3) := by decide +kernel
theorem dX7_whyNotAdvance_32 : decode cX7_whyNotAdvance 32 = .ok (.iconst 0, 1) := by decide +kernel
theorem dX7_whyNotAdvance_33 : decode cX7_whyNotAdvance 33 = .ok (.ireturn, 1) := by decide +kernel
theorem dX7_whyNotSynchronize_0 : decode cX7_whyNotSynchronize 0 = .ok (.iload_n 1, 1) := by decide +kernel
theorem dX7_whyNotSynchronize_1 : decode cX7_whyNotSynchronize 1 = .ok (.invokestatic 102, 3) := by decide +kernel
theorem dX7_whyNotSynchronize_4 : decode cX7_whyNotSynchronize 4 = .ok (.ifCond .ne 7, 3) := by decide +kernel
theorem dX7_whyNotSynchronize_7 : decode cX7_whyNotSynchronize 7 = .ok (.iconst 1, 1) := by decide +kernel
theorem dX7_whyNotSynchronize_8 : decode cX7_whyNotSynchronize 8 = .ok (.goto 21, 3) := by decide +kernel
theorem dX7_whyNotSynchronize_11 : decode cX7_whyNotSynchronize 11 = .ok (.iload_n 2, 1) := by decide +kernel
theorem dX7_whyNotSynchronize_12 : decode cX7_whyNotSynchronize 12 = .ok (.sipush (-500), 3) := by decide +kernel
theorem dX7_whyNotSynchronize_15 : decode cX7_whyNotSynchronize 15 = .ok (.sipush 500, 3) := by decide +kernel
theorem dX7_whyNotSynchronize_18 : decode cX7_whyNotSynchronize 18 = .ok (.invokestatic 30, 3) := by decide +kernel
theorem dX7_whyNotSynchronize_21 : decode cX7_whyNotSynchronize 21 = .ok (.ifCond .ne 7, 3) := by decide +kernel
theorem dX7_whyNotSynchronize_24 : decode cX7_whyNotSynchronize 24 = .ok (.iconst 2, 1) := by decide +kernel
theorem dX7_whyNotSynchronize_25 : decode cX7_whyNotSynchronize 25 = .ok (.goto 4, 3) := by decide +kernel
theorem dX7_whyNotSynchronize_28 : decode cX7_whyNotSynchronize 28 = .ok (.iconst 0, 1) := by decide +kernel
theorem dX7_whyNotSynchronize_29 : decode cX7_whyNotSynchronize 29 = .ok (.ireturn, 1) := by decide +kernel
theorem dX7_begins_0 : decode cX7_begins 0 = .ok (.bipush 21, 2) := by decide +kernel
theorem dX7_begins_2 : decode cX7_begins 2 = .ok (.aload_n 0, 1) := by decide +kernel
theorem dX7_begins_3 : decode cX7_begins 3 = .ok (.getfield 7, 3) := by decide +kernel
theorem dX7_begins_6 : decode cX7_begins 6 = .ok (.iconst 3, 1) := by decide +kernel
theorem dX7_begins_7 : decode cX7_begins 7 = .ok (.iaload, 1) := by decide +kernel
theorem dX7_begins_8 : decode cX7_begins 8 = .ok (.imul, 1) := by decide +kernel
theorem dX7_begins_9 : decode cX7_begins 9 = .ok (.istore_n 2, 1) := by decide +kernel
theorem dX7_begins_10 : decode cX7_begins 10 = .ok (.aload_n 0, 1) := by decide +kernel
theorem dX7_begins_11 : decode cX7_begins 11 = .ok (.iload_n 2, 1) := by decide +kernel
theorem dX7_begins_12 : decode cX7_begins 12 = .ok (.iconst 0, 1) := by decide +kernel
theorem dX7_begins_13 : decode cX7_begins 13 = .ok (.iadd, 1) := by decide +kernel
theorem dX7_begins_14 : decode cX7_begins 14 = .ok (.iload_n 1, 1) := by decide +kernel
theorem dX7_begins_15 : decode cX7_begins 15 = .ok (.invokevirtual 115, 3) := by decide +kernel
theorem dX7_begins_18 : decode cX7_begins 18 = .ok (.aload_n 0, 1) := by decide +kernel
theorem dX7_begins_19 : decode cX7_begins 19 = .ok (.iload_n 2, 1) := by decide +kernel
theorem dX7_begins_20 : decode cX7_begins 20 = .ok (.iconst 1, 1) := by decide +kernel
theorem dX7_begins_21 : decode cX7_begins 21 = .ok (.iadd, 1) := by decide +kernel
theorem dX7_begins_22 : decode cX7_begins 22 = .ok (.iconst 0, 1) := by decide +kernel
theorem dX7_begins_23 : decode cX7_begins 23 = .ok (.invokevirtual 115, 3) := by decide +kernel
theorem dX7_begins_26 : decode cX7_begins 26 = .ok (.iconst 2, 1) := by decide +kernel
theorem dX7_begins_27 : decode cX7_begins 27 = .ok (.istore_n 3, 1) := by decide +kernel
theorem dX7_begins_28 : decode cX7_begins 28 = .ok (.iload_n 3, 1) := by decide +kernel
theorem dX7_begins_29 : decode cX7_begins 29 = .ok (.bipush 21, 2) := by decide +kernel
theorem dX7_begins_31 : decode cX7_begins 31 = .ok (.if_icmp .ge 17, 3) := by decide +kernel
theorem dX7_begins_34 : decode cX7_begins 34 = .ok (.aload_n 0, 1) := by decide +kernel
theorem dX7_begins_35 : decode cX7_begins 35 = .ok (.iload_n 2, 1) := by decide +kernel
theorem dX7_begins_36 : decode cX7_begins 36 = .ok (.iload_n 3, 1) := by decide +kernel
theorem dX7_begins_37 : decode cX7_begins 37 = .ok (.iadd, 1) := by decide +kernel
theorem dX7_begins_38 : decode cX7_begins 38 = .ok (.iconst (-1), 1) := by decide +kernel
theorem dX7_begins_39 : decode cX7_begins 39 = .ok (.invokevirtual 115, 3) := by decide +kernel
theorem dX7_begins_42 : decode cX7_begins 42 = .ok (.iinc 3 1, 3) := by decide +kernel
theorem dX7_begins_45 : decode cX7_begins 45 = .ok (.goto (-17), 3) := by decide +kernel
theorem dX7_begins_48 : decode cX7_begins 48 = .ok (.aload_n 0, 1) := by decide +kernel
theorem dX7_begins_49 : decode cX7_begins 49 = .ok (.getfield 7, 3) := by decide +kernel
theorem dX7_begins_52 : decode cX7_begins 52 = .ok (.iconst 3, 1) := by decide +kernel
theorem dX7_begins_53 : decode cX7_begins 53 = .ok (.dup2, 1) := by decide +kernel
theorem dX7_begins_54 : decode cX7_begins 54 = .ok (.iaload, 1) := by decide +kernel
theorem dX7_begins_55 : decode cX7_begins 55 = .ok (.iconst 1, 1) := by decide +kernel
theorem dX7_begins_56 : decode cX7_begins 56 = .ok (.iadd, 1) := by decide +kernel
theorem dX7_begins_57 : decode cX7_begins 57 = .ok (.iastore, 1) := by decide +kernel
theorem dX7_begins_58 : decode cX7_begins 58 = .ok (.aload_n 0, 1) := by decide +kernel
theorem dX7_begins_59 : decode cX7_begins 59 = .ok (.getfield 7, 3) := by decide +kernel
theorem dX7_begins_62 : decode cX7_begins 62 = .ok (.iconst 3, 1) := by decide +kernel
theorem dX7_begins_63 : decode cX7_begins 63 = .ok (.iaload, 1) := by decide +kernel
theorem dX7_begins_64 : decode cX7_begins 64 = .ok (.iconst 1, 1) := by decide +kernel
theorem dX7_begins_65 : decode cX7_begins 65 = .ok (.isub, 1) := by decide +kernel
theorem dX7_begins_66 : decode cX7_begins 66 = .ok (.ireturn, 1) := by decide +kernel
theorem dX7_reads_0 : decode cX7_reads 0 = .ok (.aload_n 0, 1) := by decide +kernel
theorem dX7_reads_1 : decode cX7_reads 1 = .ok (.iload_n 1, 1) := by decide +kernel
theorem dX7_reads_2 : decode cX7_reads 2 = .ok (.iload_n 2, 1) := by decide +kernel
theorem dX7_reads_3 : decode cX7_reads 3 = .ok (.invokevirtual 64, 3) := by decide +kernel
theorem dX7_reads_6 : decode cX7_reads 6 = .ok (.ifCond .eq 12, 3) := by decide +kernel
theorem dX7_reads_9 : decode cX7_reads 9 = .ok (.aload_n 0, 1) := by decide +kernel
theorem dX7_reads_10 : decode cX7_reads 10 = .ok (.iload_n 1, 1) := by decide +kernel
theorem dX7_reads_11 : decode cX7_reads 11 = .ok (.iconst 5, 1) := by decide +kernel
theorem dX7_reads_12 : decode cX7_reads 12 = .ok (.iload_n 2, 1) := by decide +kernel
theorem dX7_reads_13 : decode cX7_reads 13 = .ok (.iadd, 1) := by decide +kernel
theorem dX7_reads_14 : decode cX7_reads 14 = .ok (.invokevirtual 61, 3) := by decide +kernel
theorem dX7_reads_17 : decode cX7_reads 17 = .ok (.ireturn, 1) := by decide +kernel
theorem dX7_reads_18 : decode cX7_reads 18 = .ok (.aload_n 0, 1) := by decide +kernel
theorem dX7_reads_19 : decode cX7_reads 19 = .ok (.iload_n 1, 1) := by decide +kernel
theorem dX7_reads_20 : decode cX7_reads 20 = .ok (.iload_n 2, 1) := by decide +kernel
theorem dX7_reads_21 : decode cX7_reads 21 = .ok (.invokevirtual 74, 3) := by decide +kernel
theorem dX7_reads_24 : decode cX7_reads 24 = .ok (.ifCond .ne 21, 3) := by decide +kernel
theorem dX7_reads_27 : decode cX7_reads 27 = .ok (.aload_n 0, 1) := by decide +kernel
theorem dX7_reads_28 : decode cX7_reads 28 = .ok (.bipush 21, 2) := by decide +kernel
theorem dX7_reads_30 : decode cX7_reads 30 = .ok (.iload_n 1, 1) := by decide +kernel
theorem dX7_reads_31 : decode cX7_reads 31 = .ok (.imul, 1) := by decide +kernel
theorem dX7_reads_32 : decode cX7_reads 32 = .ok (.bipush 13, 2) := by decide +kernel
theorem dX7_reads_34 : decode cX7_reads 34 = .ok (.iadd, 1) := by decide +kernel
theorem dX7_reads_35 : decode cX7_reads 35 = .ok (.iload_n 2, 1) := by decide +kernel
theorem dX7_reads_36 : decode cX7_reads 36 = .ok (.iadd, 1) := by decide +kernel
theorem dX7_reads_37 : decode cX7_reads 37 = .ok (.aload_n 0, 1) := by decide +kernel
theorem dX7_reads_38 : decode cX7_reads 38 = .ok (.iload_n 2, 1) := by decide +kernel
theorem dX7_reads_39 : decode cX7_reads 39 = .ok (.invokevirtual 80, 3) := by decide +kernel
theorem dX7_reads_42 : decode cX7_reads 42 = .ok (.invokevirtual 115, 3) := by decide +kernel
theorem dX7_reads_45 : decode cX7_reads 45 = .ok (.aload_n 0, 1) := by decide +kernel
theorem dX7_reads_46 : decode cX7_reads 46 = .ok (.iload_n 2, 1) := by decide +kernel
theorem dX7_reads_47 : decode cX7_reads 47 = .ok (.aload_n 0, 1) := by decide +kernel
theorem dX7_reads_48 : decode cX7_reads 48 = .ok (.iload_n 1, 1) := by decide +kernel
theorem dX7_reads_49 : decode cX7_reads 49 = .ok (.bipush 13, 2) := by decide +kernel
theorem dX7_reads_51 : decode cX7_reads 51 = .ok (.iload_n 2, 1) := by decide +kernel
theorem dX7_reads_52 : decode cX7_reads 52 = .ok (.iadd, 1) := by decide +kernel
theorem dX7_reads_53 : decode cX7_reads 53 = .ok (.invokevirtual 61, 3) := by decide +kernel
theorem dX7_reads_56 : decode cX7_reads 56 = .ok (.invokevirtual 119, 3) := by decide +kernel
theorem dX7_reads_59 : decode cX7_reads 59 = .ok (.ireturn, 1) := by decide +kernel
theorem dX7_writes_0 : decode cX7_writes 0 = .ok (.aload_n 0, 1) := by decide +kernel
theorem dX7_writes_1 : decode cX7_writes 1 = .ok (.bipush 21, 2) := by decide +kernel
theorem dX7_writes_3 : decode cX7_writes 3 = .ok (.iload_n 1, 1) := by decide +kernel
theorem dX7_writes_4 : decode cX7_writes 4 = .ok (.imul, 1) := by decide +kernel
theorem dX7_writes_5 : decode cX7_writes 5 = .ok (.iconst 5, 1) := by decide +kernel
theorem dX7_writes_6 : decode cX7_writes 6 = .ok (.iadd, 1) := by decide +kernel
theorem dX7_writes_7 : decode cX7_writes 7 = .ok (.iload_n 2, 1) := by decide +kernel
theorem dX7_writes_8 : decode cX7_writes 8 = .ok (.iadd, 1) := by decide +kernel
theorem dX7_writes_9 : decode cX7_writes 9 = .ok (.iload_n 3, 1) := by decide +kernel
theorem dX7_writes_10 : decode cX7_writes 10 = .ok (.invokevirtual 115, 3) := by decide +kernel
theorem dX7_writes_13 : decode cX7_writes 13 = .ok (.aload_n 0, 1) := by decide +kernel
theorem dX7_writes_14 : decode cX7_writes 14 = .ok (.iload_n 1, 1) := by decide +kernel
theorem dX7_writes_15 : decode cX7_writes 15 = .ok (.invokevirtual 122, 3) := by decide +kernel
theorem dX7_writes_18 : decode cX7_writes 18 = .ok (.ireturn, 1) := by decide +kernel
theorem dX7_requests_0 : decode cX7_requests 0 = .ok (.iload_n 2, 1) := by decide +kernel
theorem dX7_requests_1 : decode cX7_requests 1 = .ok (.bipush (-2), 2) := by decide +kernel
theorem dX7_requests_3 : decode cX7_requests 3 = .ok (.if_icmp .ne 15, 3) := by decide +kernel
theorem dX7_requests_6 : decode cX7_requests 6 = .ok (.aload_n 0, 1) := by decide +kernel
theorem dX7_requests_7 : decode cX7_requests 7 = .ok (.bipush 21, 2) := by decide +kernel
theorem dX7_requests_9 : decode cX7_requests 9 = .ok (.iload_n 1, 1) := by decide +kernel
theorem dX7_requests_10 : decode cX7_requests 10 = .ok (.imul, 1) := by decide +kernel
theorem dX7_requests_11 : decode cX7_requests 11 = .ok (.iconst 1, 1) := by decide +kernel
theorem dX7_requests_12 : decode cX7_requests 12 = .ok (.iadd, 1) := by decide +kernel
theorem dX7_requests_13 : decode cX7_requests 13 = .ok (.iconst 3, 1) := by decide +kernel
theorem dX7_requests_14 : decode cX7_requests 14 = .ok (.invokevirtual 115, 3) := by decide +kernel
theorem dX7_requests_17 : decode cX7_requests 17 = .ok (.return_, 1) := by decide +kernel
theorem dX7_requests_18 : decode cX7_requests 18 = .ok (.aload_n 0, 1) := by decide +kernel
theorem dX7_requests_19 : decode cX7_requests 19 = .ok (.bipush 21, 2) := by decide +kernel
theorem dX7_requests_21 : decode cX7_requests 21 = .ok (.iload_n 1, 1) := by decide +kernel
theorem dX7_requests_22 : decode cX7_requests 22 = .ok (.imul, 1) := by decide +kernel
theorem dX7_requests_23 : decode cX7_requests 23 = .ok (.iconst 1, 1) := by decide +kernel
theorem dX7_requests_24 : decode cX7_requests 24 = .ok (.iadd, 1) := by decide +kernel
theorem dX7_requests_25 : decode cX7_requests 25 = .ok (.iconst 1, 1) := by decide +kernel
theorem dX7_requests_26 : decode cX7_requests 26 = .ok (.invokevirtual 115, 3) := by decide +kernel
theorem dX7_requests_29 : decode cX7_requests 29 = .ok (.aload_n 0, 1) := by decide +kernel
theorem dX7_requests_30 : decode cX7_requests 30 = .ok (.bipush 21, 2) := by decide +kernel
theorem dX7_requests_32 : decode cX7_requests 32 = .ok (.iload_n 1, 1) := by decide +kernel
theorem dX7_requests_33 : decode cX7_requests 33 = .ok (.imul, 1) := by decide +kernel
theorem dX7_requests_34 : decode cX7_requests 34 = .ok (.iconst 2, 1) := by decide +kernel
theorem dX7_requests_35 : decode cX7_requests 35 = .ok (.iadd, 1) := by decide +kernel
theorem dX7_requests_36 : decode cX7_requests 36 = .ok (.iload_n 2, 1) := by decide +kernel
theorem dX7_requests_37 : decode cX7_requests 37 = .ok (.invokevirtual 115, 3) := by decide +kernel
theorem dX7_requests_40 : decode cX7_requests 40 = .ok (.aload_n 0, 1) := by decide +kernel
theorem dX7_requests_41 : decode cX7_requests 41 = .ok (.bipush 21, 2) := by decide +kernel
theorem dX7_requests_43 : decode cX7_requests 43 = .ok (.iload_n 1, 1) := by decide +kernel
theorem dX7_requests_44 : decode cX7_requests 44 = .ok (.imul, 1) := by decide +kernel
theorem dX7_requests_45 : decode cX7_requests 45 = .ok (.iconst 3, 1) := by decide +kernel
theorem dX7_requests_46 : decode cX7_requests 46 = .ok (.iadd, 1) := by decide +kernel
theorem dX7_requests_47 : decode cX7_requests 47 = .ok (.aload_n 0, 1) := by decide +kernel
theorem dX7_requests_48 : decode cX7_requests 48 = .ok (.getfield 7, 3) := by decide +kernel
theorem dX7_requests_51 : decode cX7_requests 51 = .ok (.iconst 0, 1) := by decide +kernel
theorem dX7_requests_52 : decode cX7_requests 52 = .ok (.iaload, 1) := by decide +kernel
theorem dX7_requests_53 : decode cX7_requests 53 = .ok (.invokevirtual 115, 3) := by decide +kernel
theorem dX7_requests_56 : decode cX7_requests 56 = .ok (.aload_n 0, 1) := by decide +kernel
theorem dX7_requests_57 : decode cX7_requests 57 = .ok (.getfield 7, 3) := by decide +kernel
theorem dX7_requests_60 : decode cX7_requests 60 = .ok (.iconst 4, 1) := by decide +kernel
theorem dX7_requests_61 : decode cX7_requests 61 = .ok (.aload_n 0, 1) := by decide +kernel
theorem dX7_requests_62 : decode cX7_requests 62 = .ok (.iload_n 1, 1) := by decide +kernel
theorem dX7_requests_63 : decode cX7_requests 63 = .ok (.iconst 0, 1) := by decide +kernel
theorem dX7_requests_64 : decode cX7_requests 64 = .ok (.invokevirtual 61, 3) := by decide +kernel
theorem dX7_requests_67 : decode cX7_requests 67 = .ok (.iadd, 1) := by decide +kernel
theorem dX7_requests_68 : decode cX7_requests 68 = .ok (.iload_n 2, 1) := by decide +kernel
theorem dX7_requests_69 : decode cX7_requests 69 = .ok (.iastore, 1) := by decide +kernel
theorem dX7_requests_70 : decode cX7_requests 70 = .ok (.aload_n 0, 1) := by decide +kernel
theorem dX7_requests_71 : decode cX7_requests 71 = .ok (.aload_n 0, 1) := by decide +kernel
theorem dX7_requests_72 : decode cX7_requests 72 = .ok (.iload_n 1, 1) := by decide +kernel
theorem dX7_requests_73 : decode cX7_requests 73 = .ok (.iconst 0, 1) := by decide +kernel
theorem dX7_requests_74 : decode cX7_requests 74 = .ok (.invokevirtual 61, 3) := by decide +kernel
theorem dX7_requests_77 : decode cX7_requests 77 = .ok (.invokevirtual 125, 3) := by decide +kernel
theorem dX7_requests_80 : decode cX7_requests 80 = .ok (.return_, 1) := by decide +kernel
theorem dX7_advances_0 : decode cX7_advances 0 = .ok (.iconst 0, 1) := by decide +kernel
theorem dX7_advances_1 : decode cX7_advances 1 = .ok (.istore_n 2, 1) := by decide +kernel
theorem dX7_advances_2 : decode cX7_advances 2 = .ok (.iconst 0, 1) := by decide +kernel
theorem dX7_advances_3 : decode cX7_advances 3 = .ok (.istore_n 3, 1) := by decide +kernel
theorem dX7_advances_4 : decode cX7_advances 4 = .ok (.iload_n 3, 1) := by decide +kernel
theorem dX7_advances_5 : decode cX7_advances 5 = .ok (.iload_n 1, 1) := by decide +kernel
theorem dX7_advances_6 : decode cX7_advances 6 = .ok (.if_icmp .ge 120, 3) := by decide +kernel
theorem dX7_advances_9 : decode cX7_advances 9 = .ok (.aload_n 0, 1) := by decide +kernel
theorem dX7_advances_10 : decode cX7_advances 10 = .ok (.getfield 7, 3) := by decide +kernel
theorem dX7_advances_13 : decode cX7_advances 13 = .ok (.iconst 0, 1) := by decide +kernel
theorem dX7_advances_14 : decode cX7_advances 14 = .ok (.dup2, 1) := by decide +kernel
theorem dX7_advances_15 : decode cX7_advances 15 = .ok (.iaload, 1) := by decide +kernel
theorem dX7_advances_16 : decode cX7_advances 16 = .ok (.iconst 1, 1) := by decide +kernel
theorem dX7_advances_17 : decode cX7_advances 17 = .ok (.iadd, 1) := by decide +kernel
theorem dX7_advances_18 : decode cX7_advances 18 = .ok (.iastore, 1) := by decide +kernel
theorem dX7_advances_19 : decode cX7_advances 19 = .ok (.iconst 0, 1) := by decide +kernel
theorem dX7_advances_20 : decode cX7_advances 20 = .ok (.istore 4, 2) := by decide +kernel
theorem dX7_advances_22 : decode cX7_advances 22 = .ok (.iload 4, 2) := by decide +kernel
theorem dX7_advances_24 : decode cX7_advances 24 = .ok (.aload_n 0, 1) := by decide +kernel
theorem dX7_advances_25 : decode cX7_advances 25 = .ok (.getfield 7, 3) := by decide +kernel
theorem dX7_advances_28 : decode cX7_advances 28 = .ok (.iconst 3, 1) := by decide +kernel
theorem dX7_advances_29 : decode cX7_advances 29 = .ok (.iaload, 1) := by decide +kernel
theorem dX7_advances_30 : decode cX7_advances 30 = .ok (.if_icmp .ge 90, 3) := by decide +kernel
theorem dX7_advances_33 : decode cX7_advances 33 = .ok (.aload_n 0, 1) := by decide +kernel
theorem dX7_advances_34 : decode cX7_advances 34 = .ok (.iload 4, 2) := by decide +kernel
theorem dX7_advances_36 : decode cX7_advances 36 = .ok (.iconst 1, 1) := by decide +kernel
theorem dX7_advances_37 : decode cX7_advances 37 = .ok (.invokevirtual 61, 3) := by decide +kernel
theorem dX7_advances_40 : decode cX7_advances 40 = .ok (.iconst 1, 1) := by decide +kernel
theorem dX7_advances_41 : decode cX7_advances 41 = .ok (.if_icmp .ne 73, 3) := by decide +kernel
theorem dX7_advances_44 : decode cX7_advances 44 = .ok (.aload_n 0, 1) := by decide +kernel
theorem dX7_advances_45 : decode cX7_advances 45 = .ok (.iload 4, 2) := by decide +kernel
theorem dX7_advances_47 : decode cX7_advances 47 = .ok (.iconst 2, 1) := by decide +kernel
theorem dX7_advances_48 : decode cX7_advances 48 = .ok (.invokevirtual 61, 3) := by decide +kernel
theorem dX7_advances_51 : decode cX7_advances 51 = .ok (.aload_n 0, 1) := by decide +kernel
theorem dX7_advances_52 : decode cX7_advances 52 = .ok (.aload_n 0, 1) := by decide +kernel
theorem dX7_advances_53 : decode cX7_advances 53 = .ok (.iload 4, 2) := by decide +kernel
theorem dX7_advances_55 : decode cX7_advances 55 = .ok (.iconst 0, 1) := by decide +kernel
theorem dX7_advances_56 : decode cX7_advances 56 = .ok (.invokevirtual 61, 3) := by decide +kernel
theorem dX7_advances_59 : decode cX7_advances 59 = .ok (.aload_n 0, 1) := by decide +kernel
theorem dX7_advances_60 : decode cX7_advances 60 = .ok (.getfield 7, 3) := by decide +kernel
theorem dX7_advances_63 : decode cX7_advances 63 = .ok (.iconst 0, 1) := by decide +kernel
theorem dX7_advances_64 : decode cX7_advances 64 = .ok (.iaload, 1) := by decide +kernel
theorem dX7_advances_65 : decode cX7_advances 65 = .ok (.invokevirtual 51, 3) := by decide +kernel
theorem dX7_advances_68 : decode cX7_advances 68 = .ok (.if_icmp .ge 46, 3) := by decide +kernel
theorem dX7_advances_71 : decode cX7_advances 71 = .ok (.aload_n 0, 1) := by decide +kernel
theorem dX7_advances_72 : decode cX7_advances 72 = .ok (.bipush 21, 2) := by decide +kernel
theorem dX7_advances_74 : decode cX7_advances 74 = .ok (.iload 4, 2) := by decide +kernel
theorem dX7_advances_76 : decode cX7_advances 76 = .ok (.imul, 1) := by decide +kernel
theorem dX7_advances_77 : decode cX7_advances 77 = .ok (.iconst 1, 1) := by decide +kernel
theorem dX7_advances_78 : decode cX7_advances 78 = .ok (.iadd, 1) := by decide +kernel
theorem dX7_advances_79 : decode cX7_advances 79 = .ok (.iconst 2, 1) := by decide +kernel
theorem dX7_advances_80 : decode cX7_advances 80 = .ok (.invokevirtual 115, 3) := by decide +kernel
theorem dX7_advances_83 : decode cX7_advances 83 = .ok (.aload_n 0, 1) := by decide +kernel
theorem dX7_advances_84 : decode cX7_advances 84 = .ok (.bipush 21, 2) := by decide +kernel
theorem dX7_advances_86 : decode cX7_advances 86 = .ok (.iload 4, 2) := by decide +kernel
theorem dX7_advances_88 : decode cX7_advances 88 = .ok (.imul, 1) := by decide +kernel
theorem dX7_advances_89 : decode cX7_advances 89 = .ok (.iconst 4, 1) := by decide +kernel
theorem dX7_advances_90 : decode cX7_advances 90 = .ok (.iadd, 1) := by decide +kernel
theorem dX7_advances_91 : decode cX7_advances 91 = .ok (.aload_n 0, 1) := by decide +kernel
theorem dX7_advances_92 : decode cX7_advances 92 = .ok (.getfield 7, 3) := by decide +kernel
theorem dX7_advances_95 : decode cX7_advances 95 = .ok (.iconst 0, 1) := by decide +kernel
theorem dX7_advances_96 : decode cX7_advances 96 = .ok (.iaload, 1) := by decide +kernel
theorem dX7_advances_97 : decode cX7_advances 97 = .ok (.invokevirtual 115, 3) := by decide +kernel
theorem dX7_advances_100 : decode cX7_advances 100 = .ok (.aload_n 0, 1) := by decide +kernel
theorem dX7_advances_101 : decode cX7_advances 101 = .ok (.aload_n 0, 1) := by decide +kernel
theorem dX7_advances_102 : decode cX7_advances 102 = .ok (.iload 4, 2) := by decide +kernel
theorem dX7_advances_104 : decode cX7_advances 104 = .ok (.iconst 0, 1) := by decide +kernel
theorem dX7_advances_105 : decode cX7_advances 105 = .ok (.invokevirtual 61, 3) := by decide +kernel
theorem dX7_advances_108 : decode cX7_advances 108 = .ok (.invokevirtual 125, 3) := by decide +kernel
theorem dX7_advances_111 : decode cX7_advances 111 = .ok (.iinc 2 1, 3) := by decide +kernel
theorem dX7_advances_114 : decode cX7_advances 114 = .ok (.iinc 4 1, 3) := by decide +kernel
theorem dX7_advances_117 : decode cX7_advances 117 = .ok (.goto (-95), 3) := by decide +kernel
theorem dX7_advances_120 : decode cX7_advances 120 = .ok (.iinc 3 1, 3) := by decide +kernel
theorem dX7_advances_123 : decode cX7_advances 123 = .ok (.goto (-119), 3) := by decide +kernel
theorem dX7_advances_126 : decode cX7_advances 126 = .ok (.iload_n 2, 1) := by decide +kernel
theorem dX7_advances_127 : decode cX7_advances 127 = .ok (.ireturn, 1) := by decide +kernel
theorem dX7_synchronizes_0 : decode cX7_synchronizes 0 = .ok (.aload_n 0, 1) := by decide +kernel
theorem dX7_synchronizes_1 : decode cX7_synchronizes 1 = .ok (.iload_n 1, 1) := by decide +kernel
theorem dX7_synchronizes_2 : decode cX7_synchronizes 2 = .ok (.aload_n 0, 1) := by decide +kernel
theorem dX7_synchronizes_3 : decode cX7_synchronizes 3 = .ok (.getfield 7, 3) := by decide +kernel
theorem dX7_synchronizes_6 : decode cX7_synchronizes 6 = .ok (.iconst 0, 1) := by decide +kernel
theorem dX7_synchronizes_7 : decode cX7_synchronizes 7 = .ok (.iaload, 1) := by decide +kernel
theorem dX7_synchronizes_8 : decode cX7_synchronizes 8 = .ok (.invokevirtual 45, 3) := by decide +kernel
theorem dX7_synchronizes_11 : decode cX7_synchronizes 11 = .ok (.istore_n 3, 1) := by decide +kernel
theorem dX7_synchronizes_12 : decode cX7_synchronizes 12 = .ok (.aload_n 0, 1) := by decide +kernel
theorem dX7_synchronizes_13 : decode cX7_synchronizes 13 = .ok (.iload_n 1, 1) := by decide +kernel
theorem dX7_synchronizes_14 : decode cX7_synchronizes 14 = .ok (.iconst 0, 1) := by decide +kernel
theorem dX7_synchronizes_15 : decode cX7_synchronizes 15 = .ok (.iload_n 2, 1) := by decide +kernel
theorem dX7_synchronizes_16 : decode cX7_synchronizes 16 = .ok (.invokevirtual 129, 3) := by decide +kernel
theorem dX7_synchronizes_19 : decode cX7_synchronizes 19 = .ok (.aload_n 0, 1) := by decide +kernel
theorem dX7_synchronizes_20 : decode cX7_synchronizes 20 = .ok (.iload_n 1, 1) := by decide +kernel
theorem dX7_synchronizes_21 : decode cX7_synchronizes 21 = .ok (.iconst 1, 1) := by decide +kernel
theorem dX7_synchronizes_22 : decode cX7_synchronizes 22 = .ok (.aload_n 0, 1) := by decide +kernel
theorem dX7_synchronizes_23 : decode cX7_synchronizes 23 = .ok (.getfield 7, 3) := by decide +kernel
theorem dX7_synchronizes_26 : decode cX7_synchronizes 26 = .ok (.iconst 0, 1) := by decide +kernel
theorem dX7_synchronizes_27 : decode cX7_synchronizes 27 = .ok (.iaload, 1) := by decide +kernel
theorem dX7_synchronizes_28 : decode cX7_synchronizes 28 = .ok (.invokevirtual 129, 3) := by decide +kernel
theorem dX7_synchronizes_31 : decode cX7_synchronizes 31 = .ok (.aload_n 0, 1) := by decide +kernel
theorem dX7_synchronizes_32 : decode cX7_synchronizes 32 = .ok (.iload_n 1, 1) := by decide +kernel
theorem dX7_synchronizes_33 : decode cX7_synchronizes 33 = .ok (.iconst 5, 1) := by decide +kernel
theorem dX7_synchronizes_34 : decode cX7_synchronizes 34 = .ok (.aload_n 0, 1) := by decide +kernel
theorem dX7_synchronizes_35 : decode cX7_synchronizes 35 = .ok (.getfield 7, 3) := by decide +kernel
theorem dX7_synchronizes_38 : decode cX7_synchronizes 38 = .ok (.iconst 0, 1) := by decide +kernel
theorem dX7_synchronizes_39 : decode cX7_synchronizes 39 = .ok (.iaload, 1) := by decide +kernel
theorem dX7_synchronizes_40 : decode cX7_synchronizes 40 = .ok (.invokevirtual 129, 3) := by decide +kernel
theorem dX7_synchronizes_43 : decode cX7_synchronizes 43 = .ok (.iload_n 2, 1) := by decide +kernel
theorem dX7_synchronizes_44 : decode cX7_synchronizes 44 = .ok (.iload_n 3, 1) := by decide +kernel
theorem dX7_synchronizes_45 : decode cX7_synchronizes 45 = .ok (.isub, 1) := by decide +kernel
theorem dX7_synchronizes_46 : decode cX7_synchronizes 46 = .ok (.ireturn, 1) := by decide +kernel
theorem dX7_begin_0 : decode cX7_begin 0 = .ok (.aload_n 0, 1) := by decide +kernel
theorem dX7_begin_1 : decode cX7_begin 1 = .ok (.aload_n 0, 1) := by decide +kernel
theorem dX7_begin_2 : decode cX7_begin 2 = .ok (.iload_n 1, 1) := by decide +kernel
theorem dX7_begin_3 : decode cX7_begin 3 = .ok (.invokevirtual 133, 3) := by decide +kernel
theorem dX7_begin_6 : decode cX7_begin 6 = .ok (.invokevirtual 136, 3) := by decide +kernel
theorem dX7_begin_9 : decode cX7_begin 9 = .ok (.ifCond .eq 5, 3) := by decide +kernel
theorem dX7_begin_12 : decode cX7_begin 12 = .ok (.iconst 0, 1) := by decide +kernel
theorem dX7_begin_13 : decode cX7_begin 13 = .ok (.ireturn, 1) := by decide +kernel
theorem dX7_begin_14 : decode cX7_begin 14 = .ok (.aload_n 0, 1) := by decide +kernel
theorem dX7_begin_15 : decode cX7_begin 15 = .ok (.invokevirtual 139, 3) := by decide +kernel
theorem dX7_begin_18 : decode cX7_begin 18 = .ok (.aload_n 0, 1) := by decide +kernel
theorem dX7_begin_19 : decode cX7_begin 19 = .ok (.iload_n 1, 1) := by decide +kernel
theorem dX7_begin_20 : decode cX7_begin 20 = .ok (.invokevirtual 142, 3) := by decide +kernel
theorem dX7_begin_23 : decode cX7_begin 23 = .ok (.ireturn, 1) := by decide +kernel
theorem dX7_read_0 : decode cX7_read 0 = .ok (.aload_n 0, 1) := by decide +kernel
theorem dX7_read_1 : decode cX7_read 1 = .ok (.aload_n 0, 1) := by decide +kernel
theorem dX7_read_2 : decode cX7_read 2 = .ok (.iload_n 1, 1) := by decide +kernel
theorem dX7_read_3 : decode cX7_read 3 = .ok (.iload_n 2, 1) := by decide +kernel
theorem dX7_read_4 : decode cX7_read 4 = .ok (.invokevirtual 145, 3) := by decide +kernel
theorem dX7_read_7 : decode cX7_read 7 = .ok (.invokevirtual 136, 3) := by decide +kernel
theorem dX7_read_10 : decode cX7_read 10 = .ok (.ifCond .eq 5, 3) := by decide +kernel
theorem dX7_read_13 : decode cX7_read 13 = .ok (.iconst 0, 1) := by decide +kernel
theorem dX7_read_14 : decode cX7_read 14 = .ok (.ireturn, 1) := by decide +kernel
theorem dX7_read_15 : decode cX7_read 15 = .ok (.aload_n 0, 1) := by decide +kernel
theorem dX7_read_16 : decode cX7_read 16 = .ok (.invokevirtual 139, 3) := by decide +kernel
theorem dX7_read_19 : decode cX7_read 19 = .ok (.aload_n 0, 1) := by decide +kernel
theorem dX7_read_20 : decode cX7_read 20 = .ok (.iload_n 1, 1) := by decide +kernel
theorem dX7_read_21 : decode cX7_read 21 = .ok (.iload_n 2, 1) := by decide +kernel
theorem dX7_read_22 : decode cX7_read 22 = .ok (.invokevirtual 148, 3) := by decide +kernel
theorem dX7_read_25 : decode cX7_read 25 = .ok (.ireturn, 1) := by decide +kernel
theorem dX7_write_0 : decode cX7_write 0 = .ok (.aload_n 0, 1) := by decide +kernel
theorem dX7_write_1 : decode cX7_write 1 = .ok (.aload_n 0, 1) := by decide +kernel
theorem dX7_write_2 : decode cX7_write 2 = .ok (.iload_n 1, 1) := by decide +kernel
theorem dX7_write_3 : decode cX7_write 3 = .ok (.iload_n 2, 1) := by decide +kernel
theorem dX7_write_4 : decode cX7_write 4 = .ok (.iload_n 3, 1) := by decide +kernel
theorem dX7_write_5 : decode cX7_write 5 = .ok (.invokevirtual 151, 3) := by decide +kernel
theorem dX7_write_8 : decode cX7_write 8 = .ok (.invokevirtual 136, 3) := by decide +kernel
theorem dX7_write_11 : decode cX7_write 11 = .ok (.ifCond .eq 5, 3) := by decide +kernel
theorem dX7_write_14 : decode cX7_write 14 = .ok (.iconst 0, 1) := by decide +kernel
theorem dX7_write_15 : decode cX7_write 15 = .ok (.ireturn, 1) := by decide +kernel
theorem dX7_write_16 : decode cX7_write 16 = .ok (.aload_n 0, 1) := by decide +kernel
theorem dX7_write_17 : decode cX7_write 17 = .ok (.invokevirtual 139, 3) := by decide +kernel
theorem dX7_write_20 : decode cX7_write 20 = .ok (.aload_n 0, 1) := by decide +kernel
theorem dX7_write_21 : decode cX7_write 21 = .ok (.iload_n 1, 1) := by decide +kernel
theorem dX7_write_22 : decode cX7_write 22 = .ok (.iload_n 2, 1) := by decide +kernel
theorem dX7_write_23 : decode cX7_write 23 = .ok (.iload_n 3, 1) := by decide +kernel
theorem dX7_write_24 : decode cX7_write 24 = .ok (.invokevirtual 155, 3) := by decide +kernel
theorem dX7_write_27 : decode cX7_write 27 = .ok (.ireturn, 1) := by decide +kernel
theorem dX7_commit_0 : decode cX7_commit 0 = .ok (.aload_n 0, 1) := by decide +kernel
theorem dX7_commit_1 : decode cX7_commit 1 = .ok (.aload_n 0, 1) := by decide +kernel
theorem dX7_commit_2 : decode cX7_commit 2 = .ok (.iload_n 1, 1) := by decide +kernel
theorem dX7_commit_3 : decode cX7_commit 3 = .ok (.invokevirtual 111, 3) := by decide +kernel
theorem dX7_commit_6 : decode cX7_commit 6 = .ok (.invokevirtual 136, 3) := by decide +kernel
theorem dX7_commit_9 : decode cX7_commit 9 = .ok (.ifCond .eq 5, 3) := by decide +kernel
theorem dX7_commit_12 : decode cX7_commit 12 = .ok (.iconst 0, 1) := by decide +kernel
theorem dX7_commit_13 : decode cX7_commit 13 = .ok (.ireturn, 1) := by decide +kernel
theorem dX7_commit_14 : decode cX7_commit 14 = .ok (.aload_n 0, 1) := by decide +kernel
theorem dX7_commit_15 : decode cX7_commit 15 = .ok (.iload_n 1, 1) := by decide +kernel
theorem dX7_commit_16 : decode cX7_commit 16 = .ok (.invokevirtual 158, 3) := by decide +kernel
theorem dX7_commit_19 : decode cX7_commit 19 = .ok (.istore_n 2, 1) := by decide +kernel
theorem dX7_commit_20 : decode cX7_commit 20 = .ok (.iload_n 2, 1) := by decide +kernel
theorem dX7_commit_21 : decode cX7_commit 21 = .ok (.bipush (-3), 2) := by decide +kernel
theorem dX7_commit_23 : decode cX7_commit 23 = .ok (.if_icmp .eq 13, 3) := by decide +kernel
theorem dX7_commit_26 : decode cX7_commit 26 = .ok (.aload_n 0, 1) := by decide +kernel
theorem dX7_commit_27 : decode cX7_commit 27 = .ok (.invokevirtual 139, 3) := by decide +kernel
theorem dX7_commit_30 : decode cX7_commit 30 = .ok (.aload_n 0, 1) := by decide +kernel
theorem dX7_commit_31 : decode cX7_commit 31 = .ok (.iload_n 1, 1) := by decide +kernel
theorem dX7_commit_32 : decode cX7_commit 32 = .ok (.iload_n 2, 1) := by decide +kernel
theorem dX7_commit_33 : decode cX7_commit 33 = .ok (.invokevirtual 161, 3) := by decide +kernel
theorem dX7_commit_36 : decode cX7_commit 36 = .ok (.iload_n 2, 1) := by decide +kernel
theorem dX7_commit_37 : decode cX7_commit 37 = .ok (.ireturn, 1) := by decide +kernel
theorem dX7_abort_0 : decode cX7_abort 0 = .ok (.aload_n 0, 1) := by decide +kernel
theorem dX7_abort_1 : decode cX7_abort 1 = .ok (.aload_n 0, 1) := by decide +kernel
theorem dX7_abort_2 : decode cX7_abort 2 = .ok (.iload_n 1, 1) := by decide +kernel
theorem dX7_abort_3 : decode cX7_abort 3 = .ok (.invokevirtual 111, 3) := by decide +kernel
theorem dX7_abort_6 : decode cX7_abort 6 = .ok (.invokevirtual 136, 3) := by decide +kernel
theorem dX7_abort_9 : decode cX7_abort 9 = .ok (.ifCond .eq 5, 3) := by decide +kernel
theorem dX7_abort_12 : decode cX7_abort 12 = .ok (.iconst 0, 1) := by decide +kernel
theorem dX7_abort_13 : decode cX7_abort 13 = .ok (.ireturn, 1) := by decide +kernel
theorem dX7_abort_14 : decode cX7_abort 14 = .ok (.aload_n 0, 1) := by decide +kernel
theorem dX7_abort_15 : decode cX7_abort 15 = .ok (.invokevirtual 139, 3) := by decide +kernel
theorem dX7_abort_18 : decode cX7_abort 18 = .ok (.aload_n 0, 1) := by decide +kernel
theorem dX7_abort_19 : decode cX7_abort 19 = .ok (.bipush 21, 2) := by decide +kernel
theorem dX7_abort_21 : decode cX7_abort 21 = .ok (.iload_n 1, 1) := by decide +kernel
theorem dX7_abort_22 : decode cX7_abort 22 = .ok (.imul, 1) := by decide +kernel
theorem dX7_abort_23 : decode cX7_abort 23 = .ok (.iconst 1, 1) := by decide +kernel
theorem dX7_abort_24 : decode cX7_abort 24 = .ok (.iadd, 1) := by decide +kernel
theorem dX7_abort_25 : decode cX7_abort 25 = .ok (.iconst 3, 1) := by decide +kernel
theorem dX7_abort_26 : decode cX7_abort 26 = .ok (.invokevirtual 115, 3) := by decide +kernel
theorem dX7_abort_29 : decode cX7_abort 29 = .ok (.aload_n 0, 1) := by decide +kernel
theorem dX7_abort_30 : decode cX7_abort 30 = .ok (.iload_n 1, 1) := by decide +kernel
theorem dX7_abort_31 : decode cX7_abort 31 = .ok (.invokevirtual 122, 3) := by decide +kernel
theorem dX7_abort_34 : decode cX7_abort 34 = .ok (.ireturn, 1) := by decide +kernel
theorem dX7_advance_0 : decode cX7_advance 0 = .ok (.aload_n 0, 1) := by decide +kernel
theorem dX7_advance_1 : decode cX7_advance 1 = .ok (.aload_n 0, 1) := by decide +kernel
theorem dX7_advance_2 : decode cX7_advance 2 = .ok (.iload_n 1, 1) := by decide +kernel
theorem dX7_advance_3 : decode cX7_advance 3 = .ok (.invokevirtual 164, 3) := by decide +kernel
theorem dX7_advance_6 : decode cX7_advance 6 = .ok (.invokevirtual 136, 3) := by decide +kernel
theorem dX7_advance_9 : decode cX7_advance 9 = .ok (.ifCond .eq 5, 3) := by decide +kernel
theorem dX7_advance_12 : decode cX7_advance 12 = .ok (.iconst 0, 1) := by decide +kernel
theorem dX7_advance_13 : decode cX7_advance 13 = .ok (.ireturn, 1) := by decide +kernel
theorem dX7_advance_14 : decode cX7_advance 14 = .ok (.aload_n 0, 1) := by decide +kernel
theorem dX7_advance_15 : decode cX7_advance 15 = .ok (.invokevirtual 139, 3) := by decide +kernel
theorem dX7_advance_18 : decode cX7_advance 18 = .ok (.aload_n 0, 1) := by decide +kernel
theorem dX7_advance_19 : decode cX7_advance 19 = .ok (.iload_n 1, 1) := by decide +kernel
theorem dX7_advance_20 : decode cX7_advance 20 = .ok (.invokevirtual 167, 3) := by decide +kernel
theorem dX7_advance_23 : decode cX7_advance 23 = .ok (.ireturn, 1) := by decide +kernel
theorem dX7_synchronize_0 : decode cX7_synchronize 0 = .ok (.aload_n 0, 1) := by decide +kernel
theorem dX7_synchronize_1 : decode cX7_synchronize 1 = .ok (.aload_n 0, 1) := by decide +kernel
theorem dX7_synchronize_2 : decode cX7_synchronize 2 = .ok (.iload_n 1, 1) := by decide +kernel
theorem dX7_synchronize_3 : decode cX7_synchronize 3 = .ok (.iload_n 2, 1) := by decide +kernel
theorem dX7_synchronize_4 : decode cX7_synchronize 4 = .ok (.invokevirtual 170, 3) := by decide +kernel
theorem dX7_synchronize_7 : decode cX7_synchronize 7 = .ok (.invokevirtual 136, 3) := by decide +kernel
theorem dX7_synchronize_10 : decode cX7_synchronize 10 = .ok (.ifCond .eq 5, 3) := by decide +kernel
theorem dX7_synchronize_13 : decode cX7_synchronize 13 = .ok (.iconst 0, 1) := by decide +kernel
theorem dX7_synchronize_14 : decode cX7_synchronize 14 = .ok (.ireturn, 1) := by decide +kernel
theorem dX7_synchronize_15 : decode cX7_synchronize 15 = .ok (.aload_n 0, 1) := by decide +kernel
theorem dX7_synchronize_16 : decode cX7_synchronize 16 = .ok (.invokevirtual 139, 3) := by decide +kernel
theorem dX7_synchronize_19 : decode cX7_synchronize 19 = .ok (.aload_n 0, 1) := by decide +kernel
theorem dX7_synchronize_20 : decode cX7_synchronize 20 = .ok (.iload_n 1, 1) := by decide +kernel
theorem dX7_synchronize_21 : decode cX7_synchronize 21 = .ok (.iload_n 2, 1) := by decide +kernel
theorem dX7_synchronize_22 : decode cX7_synchronize 22 = .ok (.invokevirtual 173, 3) := by decide +kernel
theorem dX7_synchronize_25 : decode cX7_synchronize 25 = .ok (.ireturn, 1) := by decide +kernel
theorem dX7_setDrift_0 : decode cX7_setDrift 0 = .ok (.aload_n 0, 1) := by decide +kernel
theorem dX7_setDrift_1 : decode cX7_setDrift 1 = .ok (.iload_n 1, 1) := by decide +kernel
theorem dX7_setDrift_2 : decode cX7_setDrift 2 = .ok (.invokestatic 102, 3) := by decide +kernel
theorem dX7_setDrift_5 : decode cX7_setDrift 5 = .ok (.ifCond .ne 7, 3) := by decide +kernel
theorem dX7_setDrift_8 : decode cX7_setDrift 8 = .ok (.iconst 1, 1) := by decide +kernel
theorem dX7_setDrift_9 : decode cX7_setDrift 9 = .ok (.goto 19, 3) := by decide +kernel
theorem dX7_setDrift_12 : decode cX7_setDrift 12 = .ok (.iload_n 2, 1) := by decide +kernel
theorem dX7_setDrift_13 : decode cX7_setDrift 13 = .ok (.bipush (-100), 2) := by decide +kernel
theorem dX7_setDrift_15 : decode cX7_setDrift 15 = .ok (.bipush 100, 2) := by decide +kernel
theorem dX7_setDrift_17 : decode cX7_setDrift 17 = .ok (.invokestatic 30, 3) := by decide +kernel
theorem dX7_setDrift_20 : decode cX7_setDrift 20 = .ok (.ifCond .ne 7, 3) := by decide +kernel
theorem dX7_setDrift_23 : decode cX7_setDrift 23 = .ok (.iconst 2, 1) := by decide +kernel
theorem dX7_setDrift_24 : decode cX7_setDrift 24 = .ok (.goto 4, 3) := by decide +kernel
theorem dX7_setDrift_27 : decode cX7_setDrift 27 = .ok (.iconst 0, 1) := by decide +kernel
theorem dX7_setDrift_28 : decode cX7_setDrift 28 = .ok (.invokevirtual 136, 3) := by decide +kernel
theorem dX7_setDrift_31 : decode cX7_setDrift 31 = .ok (.ifCond .eq 5, 3) := by decide +kernel
theorem dX7_setDrift_34 : decode cX7_setDrift 34 = .ok (.iconst 0, 1) := by decide +kernel
theorem dX7_setDrift_35 : decode cX7_setDrift 35 = .ok (.ireturn, 1) := by decide +kernel
theorem dX7_setDrift_36 : decode cX7_setDrift 36 = .ok (.aload_n 0, 1) := by decide +kernel
theorem dX7_setDrift_37 : decode cX7_setDrift 37 = .ok (.invokevirtual 139, 3) := by decide +kernel
theorem dX7_setDrift_40 : decode cX7_setDrift 40 = .ok (.aload_n 0, 1) := by decide +kernel
theorem dX7_setDrift_41 : decode cX7_setDrift 41 = .ok (.iload_n 1, 1) := by decide +kernel
theorem dX7_setDrift_42 : decode cX7_setDrift 42 = .ok (.iconst 2, 1) := by decide +kernel
theorem dX7_setDrift_43 : decode cX7_setDrift 43 = .ok (.invokevirtual 37, 3) := by decide +kernel
theorem dX7_setDrift_46 : decode cX7_setDrift 46 = .ok (.istore_n 3, 1) := by decide +kernel
theorem dX7_setDrift_47 : decode cX7_setDrift 47 = .ok (.aload_n 0, 1) := by decide +kernel
theorem dX7_setDrift_48 : decode cX7_setDrift 48 = .ok (.iload_n 1, 1) := by decide +kernel
theorem dX7_setDrift_49 : decode cX7_setDrift 49 = .ok (.iconst 0, 1) := by decide +kernel
theorem dX7_setDrift_50 : decode cX7_setDrift 50 = .ok (.aload_n 0, 1) := by decide +kernel
theorem dX7_setDrift_51 : decode cX7_setDrift 51 = .ok (.iload_n 1, 1) := by decide +kernel
theorem dX7_setDrift_52 : decode cX7_setDrift 52 = .ok (.aload_n 0, 1) := by decide +kernel
theorem dX7_setDrift_53 : decode cX7_setDrift 53 = .ok (.getfield 7, 3) := by decide +kernel
theorem dX7_setDrift_56 : decode cX7_setDrift 56 = .ok (.iconst 0, 1) := by decide +kernel
theorem dX7_setDrift_57 : decode cX7_setDrift 57 = .ok (.iaload, 1) := by decide +kernel
theorem dX7_setDrift_58 : decode cX7_setDrift 58 = .ok (.invokevirtual 45, 3) := by decide +kernel
theorem dX7_setDrift_61 : decode cX7_setDrift 61 = .ok (.invokevirtual 129, 3) := by decide +kernel
theorem dX7_setDrift_64 : decode cX7_setDrift 64 = .ok (.aload_n 0, 1) := by decide +kernel
theorem dX7_setDrift_65 : decode cX7_setDrift 65 = .ok (.iload_n 1, 1) := by decide +kernel
theorem dX7_setDrift_66 : decode cX7_setDrift 66 = .ok (.iconst 1, 1) := by decide +kernel
theorem dX7_setDrift_67 : decode cX7_setDrift 67 = .ok (.aload_n 0, 1) := by decide +kernel
theorem dX7_setDrift_68 : decode cX7_setDrift 68 = .ok (.getfield 7, 3) := by decide +kernel
theorem dX7_setDrift_71 : decode cX7_setDrift 71 = .ok (.iconst 0, 1) := by decide +kernel
theorem dX7_setDrift_72 : decode cX7_setDrift 72 = .ok (.iaload, 1) := by decide +kernel
theorem dX7_setDrift_73 : decode cX7_setDrift 73 = .ok (.invokevirtual 129, 3) := by decide +kernel
theorem dX7_setDrift_76 : decode cX7_setDrift 76 = .ok (.aload_n 0, 1) := by decide +kernel
theorem dX7_setDrift_77 : decode cX7_setDrift 77 = .ok (.iload_n 1, 1) := by decide +kernel
theorem dX7_setDrift_78 : decode cX7_setDrift 78 = .ok (.iconst 2, 1) := by decide +kernel
theorem dX7_setDrift_79 : decode cX7_setDrift 79 = .ok (.iload_n 2, 1) := by decide +kernel
theorem dX7_setDrift_80 : decode cX7_setDrift 80 = .ok (.invokevirtual 129, 3) := by decide +kernel
theorem dX7_setDrift_83 : decode cX7_setDrift 83 = .ok (.iload_n 3, 1) := by decide +kernel
theorem dX7_setDrift_84 : decode cX7_setDrift 84 = .ok (.ireturn, 1) := by decide +kernel
theorem dX7_setUncertainty_0 : decode cX7_setUncertainty 0 = .ok (.iload_n 2, 1) := by decide +kernel
theorem dX7_setUncertainty_1 : decode cX7_setUncertainty 1 = .ok (.iconst 0, 1) := by decide +kernel
theorem dX7_setUncertainty_2 : decode cX7_setUncertainty 2 = .ok (.sipush 500, 3) := by decide +kernel
theorem dX7_setUncertainty_5 : decode cX7_setUncertainty 5 = .ok (.invokestatic 30, 3) := by decide +kernel
theorem dX7_setUncertainty_8 : decode cX7_setUncertainty 8 = .ok (.ifCond .eq 17, 3) := by decide +kernel
theorem dX7_setUncertainty_11 : decode cX7_setUncertainty 11 = .ok (.iload_n 3, 1) := by decide +kernel
theorem dX7_setUncertainty_12 : decode cX7_setUncertainty 12 = .ok (.iconst 0, 1) := by decide +kernel
theorem dX7_setUncertainty_13 : decode cX7_setUncertainty 13 = .ok (.bipush 100, 2) := by decide +kernel
theorem dX7_setUncertainty_15 : decode cX7_setUncertainty 15 = .ok (.invokestatic 30, 3) := by decide +kernel
theorem dX7_setUncertainty_18 : decode cX7_setUncertainty 18 = .ok (.ifCond .eq 7, 3) := by decide +kernel
theorem dX7_setUncertainty_21 : decode cX7_setUncertainty 21 = .ok (.iconst 1, 1) := by decide +kernel
theorem dX7_setUncertainty_22 : decode cX7_setUncertainty 22 = .ok (.goto 4, 3) := by decide +kernel
theorem dX7_setUncertainty_25 : decode cX7_setUncertainty 25 = .ok (.iconst 0, 1) := by decide +kernel
theorem dX7_setUncertainty_26 : decode cX7_setUncertainty 26 = .ok (.istore 4, 2) := by decide +kernel
theorem dX7_setUncertainty_28 : decode cX7_setUncertainty 28 = .ok (.aload_n 0, 1) := by decide +kernel
theorem dX7_setUncertainty_29 : decode cX7_setUncertainty 29 = .ok (.iload_n 1, 1) := by decide +kernel
theorem dX7_setUncertainty_30 : decode cX7_setUncertainty 30 = .ok (.invokestatic 102, 3) := by decide +kernel
theorem dX7_setUncertainty_33 : decode cX7_setUncertainty 33 = .ok (.ifCond .ne 7, 3) := by decide +kernel
theorem dX7_setUncertainty_36 : decode cX7_setUncertainty 36 = .ok (.iconst 1, 1) := by decide +kernel
theorem dX7_setUncertainty_37 : decode cX7_setUncertainty 37 = .ok (.goto 13, 3) := by decide +kernel
theorem dX7_setUncertainty_40 : decode cX7_setUncertainty 40 = .ok (.iload 4, 2) := by decide +kernel
theorem dX7_setUncertainty_42 : decode cX7_setUncertainty 42 = .ok (.ifCond .eq 7, 3) := by decide +kernel
theorem dX7_setUncertainty_45 : decode cX7_setUncertainty 45 = .ok (.iconst 0, 1) := by decide +kernel
theorem dX7_setUncertainty_46 : decode cX7_setUncertainty 46 = .ok (.goto 4, 3) := by decide +kernel
theorem dX7_setUncertainty_49 : decode cX7_setUncertainty 49 = .ok (.iconst 2, 1) := by decide +kernel
theorem dX7_setUncertainty_50 : decode cX7_setUncertainty 50 = .ok (.invokevirtual 136, 3) := by decide +kernel
theorem dX7_setUncertainty_53 : decode cX7_setUncertainty 53 = .ok (.ifCond .eq 5, 3) := by decide +kernel
theorem dX7_setUncertainty_56 : decode cX7_setUncertainty 56 = .ok (.iconst 0, 1) := by decide +kernel
theorem dX7_setUncertainty_57 : decode cX7_setUncertainty 57 = .ok (.ireturn, 1) := by decide +kernel
theorem dX7_setUncertainty_58 : decode cX7_setUncertainty 58 = .ok (.aload_n 0, 1) := by decide +kernel
theorem dX7_setUncertainty_59 : decode cX7_setUncertainty 59 = .ok (.invokevirtual 139, 3) := by decide +kernel
theorem dX7_setUncertainty_62 : decode cX7_setUncertainty 62 = .ok (.aload_n 0, 1) := by decide +kernel
theorem dX7_setUncertainty_63 : decode cX7_setUncertainty 63 = .ok (.iload_n 1, 1) := by decide +kernel
theorem dX7_setUncertainty_64 : decode cX7_setUncertainty 64 = .ok (.iconst 3, 1) := by decide +kernel
theorem dX7_setUncertainty_65 : decode cX7_setUncertainty 65 = .ok (.iload_n 2, 1) := by decide +kernel
theorem dX7_setUncertainty_66 : decode cX7_setUncertainty 66 = .ok (.invokevirtual 129, 3) := by decide +kernel
theorem dX7_setUncertainty_69 : decode cX7_setUncertainty 69 = .ok (.aload_n 0, 1) := by decide +kernel
theorem dX7_setUncertainty_70 : decode cX7_setUncertainty 70 = .ok (.iload_n 1, 1) := by decide +kernel
theorem dX7_setUncertainty_71 : decode cX7_setUncertainty 71 = .ok (.iconst 4, 1) := by decide +kernel
theorem dX7_setUncertainty_72 : decode cX7_setUncertainty 72 = .ok (.iload_n 3, 1) := by decide +kernel
theorem dX7_setUncertainty_73 : decode cX7_setUncertainty 73 = .ok (.invokevirtual 129, 3) := by decide +kernel
theorem dX7_setUncertainty_76 : decode cX7_setUncertainty 76 = .ok (.aload_n 0, 1) := by decide +kernel
theorem dX7_setUncertainty_77 : decode cX7_setUncertainty 77 = .ok (.iload_n 1, 1) := by decide +kernel
theorem dX7_setUncertainty_78 : decode cX7_setUncertainty 78 = .ok (.aload_n 0, 1) := by decide +kernel
theorem dX7_setUncertainty_79 : decode cX7_setUncertainty 79 = .ok (.getfield 7, 3) := by decide +kernel
theorem dX7_setUncertainty_82 : decode cX7_setUncertainty 82 = .ok (.iconst 0, 1) := by decide +kernel
theorem dX7_setUncertainty_83 : decode cX7_setUncertainty 83 = .ok (.iaload, 1) := by decide +kernel
theorem dX7_setUncertainty_84 : decode cX7_setUncertainty 84 = .ok (.invokevirtual 48, 3) := by decide +kernel
theorem dX7_setUncertainty_87 : decode cX7_setUncertainty 87 = .ok (.ireturn, 1) := by decide +kernel
theorem dX7_safe_0 : decode cX7_safe 0 = .ok (.ldc 73, 2) := by decide +kernel
theorem dX7_safe_2 : decode cX7_safe 2 = .ok (.istore_n 2, 1) := by decide +kernel
theorem dX7_safe_3 : decode cX7_safe 3 = .ok (.iconst 0, 1) := by decide +kernel
theorem dX7_safe_4 : decode cX7_safe 4 = .ok (.istore_n 3, 1) := by decide +kernel
theorem dX7_safe_5 : decode cX7_safe 5 = .ok (.iload_n 3, 1) := by decide +kernel
theorem dX7_safe_6 : decode cX7_safe 6 = .ok (.iconst 3, 1) := by decide +kernel
theorem dX7_safe_7 : decode cX7_safe 7 = .ok (.if_icmp .ge 32, 3) := by decide +kernel
theorem dX7_safe_10 : decode cX7_safe 10 = .ok (.aload_n 0, 1) := by decide +kernel
theorem dX7_safe_11 : decode cX7_safe 11 = .ok (.iload_n 3, 1) := by decide +kernel
theorem dX7_safe_12 : decode cX7_safe 12 = .ok (.iload_n 1, 1) := by decide +kernel
theorem dX7_safe_13 : decode cX7_safe 13 = .ok (.invokevirtual 86, 3) := by decide +kernel
theorem dX7_safe_16 : decode cX7_safe 16 = .ok (.iconst 1, 1) := by decide +kernel
theorem dX7_safe_17 : decode cX7_safe 17 = .ok (.isub, 1) := by decide +kernel
theorem dX7_safe_18 : decode cX7_safe 18 = .ok (.istore 4, 2) := by decide +kernel
theorem dX7_safe_20 : decode cX7_safe 20 = .ok (.iload 4, 2) := by decide +kernel
theorem dX7_safe_22 : decode cX7_safe 22 = .ok (.iload_n 2, 1) := by decide +kernel
theorem dX7_safe_23 : decode cX7_safe 23 = .ok (.if_icmp .ge 8, 3) := by decide +kernel
theorem dX7_safe_26 : decode cX7_safe 26 = .ok (.iload 4, 2) := by decide +kernel
theorem dX7_safe_28 : decode cX7_safe 28 = .ok (.goto 4, 3) := by decide +kernel
theorem dX7_safe_31 : decode cX7_safe 31 = .ok (.iload_n 2, 1) := by decide +kernel
theorem dX7_safe_32 : decode cX7_safe 32 = .ok (.istore_n 2, 1) := by decide +kernel
theorem dX7_safe_33 : decode cX7_safe 33 = .ok (.iinc 3 1, 3) := by decide +kernel
theorem dX7_safe_36 : decode cX7_safe 36 = .ok (.goto (-31), 3) := by decide +kernel
theorem dX7_safe_39 : decode cX7_safe 39 = .ok (.iload_n 2, 1) := by decide +kernel
theorem dX7_safe_40 : decode cX7_safe 40 = .ok (.ireturn, 1) := by decide +kernel
theorem dX7_safeNow_0 : decode cX7_safeNow 0 = .ok (.aload_n 0, 1) := by decide +kernel
theorem dX7_safeNow_1 : decode cX7_safeNow 1 = .ok (.aload_n 0, 1) := by decide +kernel
theorem dX7_safeNow_2 : decode cX7_safeNow 2 = .ok (.getfield 7, 3) := by decide +kernel
theorem dX7_safeNow_5 : decode cX7_safeNow 5 = .ok (.iconst 0, 1) := by decide +kernel
theorem dX7_safeNow_6 : decode cX7_safeNow 6 = .ok (.iaload, 1) := by decide +kernel
theorem dX7_safeNow_7 : decode cX7_safeNow 7 = .ok (.invokevirtual 176, 3) := by decide +kernel
theorem dX7_safeNow_10 : decode cX7_safeNow 10 = .ok (.istore_n 1, 1) := by decide +kernel
theorem dX7_safeNow_11 : decode cX7_safeNow 11 = .ok (.iconst 0, 1) := by decide +kernel
theorem dX7_safeNow_12 : decode cX7_safeNow 12 = .ok (.istore_n 2, 1) := by decide +kernel
theorem dX7_safeNow_13 : decode cX7_safeNow 13 = .ok (.iload_n 2, 1) := by decide +kernel
theorem dX7_safeNow_14 : decode cX7_safeNow 14 = .ok (.aload_n 0, 1) := by decide +kernel
theorem dX7_safeNow_15 : decode cX7_safeNow 15 = .ok (.getfield 7, 3) := by decide +kernel
theorem dX7_safeNow_18 : decode cX7_safeNow 18 = .ok (.iconst 3, 1) := by decide +kernel
theorem dX7_safeNow_19 : decode cX7_safeNow 19 = .ok (.iaload, 1) := by decide +kernel
theorem dX7_safeNow_20 : decode cX7_safeNow 20 = .ok (.if_icmp .ge 44, 3) := by decide +kernel
theorem dX7_safeNow_23 : decode cX7_safeNow 23 = .ok (.aload_n 0, 1) := by decide +kernel
theorem dX7_safeNow_24 : decode cX7_safeNow 24 = .ok (.iload_n 2, 1) := by decide +kernel
theorem dX7_safeNow_25 : decode cX7_safeNow 25 = .ok (.iconst 1, 1) := by decide +kernel
theorem dX7_safeNow_26 : decode cX7_safeNow 26 = .ok (.invokevirtual 61, 3) := by decide +kernel
theorem dX7_safeNow_29 : decode cX7_safeNow 29 = .ok (.iconst 1, 1) := by decide +kernel
theorem dX7_safeNow_30 : decode cX7_safeNow 30 = .ok (.if_icmp .ne 26, 3) := by decide +kernel
theorem dX7_safeNow_33 : decode cX7_safeNow 33 = .ok (.aload_n 0, 1) := by decide +kernel
theorem dX7_safeNow_34 : decode cX7_safeNow 34 = .ok (.iload_n 2, 1) := by decide +kernel
theorem dX7_safeNow_35 : decode cX7_safeNow 35 = .ok (.iconst 2, 1) := by decide +kernel
theorem dX7_safeNow_36 : decode cX7_safeNow 36 = .ok (.invokevirtual 61, 3) := by decide +kernel
theorem dX7_safeNow_39 : decode cX7_safeNow 39 = .ok (.iconst 1, 1) := by decide +kernel
theorem dX7_safeNow_40 : decode cX7_safeNow 40 = .ok (.isub, 1) := by decide +kernel
theorem dX7_safeNow_41 : decode cX7_safeNow 41 = .ok (.iload_n 1, 1) := by decide +kernel
theorem dX7_safeNow_42 : decode cX7_safeNow 42 = .ok (.if_icmp .ge 14, 3) := by decide +kernel
theorem dX7_safeNow_45 : decode cX7_safeNow 45 = .ok (.aload_n 0, 1) := by decide +kernel
theorem dX7_safeNow_46 : decode cX7_safeNow 46 = .ok (.iload_n 2, 1) := by decide +kernel
theorem dX7_safeNow_47 : decode cX7_safeNow 47 = .ok (.iconst 2, 1) := by decide +kernel
theorem dX7_safeNow_48 : decode cX7_safeNow 48 = .ok (.invokevirtual 61, 3) := by decide +kernel
theorem dX7_safeNow_51 : decode cX7_safeNow 51 = .ok (.iconst 1, 1) := by decide +kernel
theorem dX7_safeNow_52 : decode cX7_safeNow 52 = .ok (.isub, 1) := by decide +kernel
theorem dX7_safeNow_53 : decode cX7_safeNow 53 = .ok (.goto 4, 3) := by decide +kernel
theorem dX7_safeNow_56 : decode cX7_safeNow 56 = .ok (.iload_n 1, 1) := by decide +kernel
theorem dX7_safeNow_57 : decode cX7_safeNow 57 = .ok (.istore_n 1, 1) := by decide +kernel
theorem dX7_safeNow_58 : decode cX7_safeNow 58 = .ok (.iinc 2 1, 3) := by decide +kernel
theorem dX7_safeNow_61 : decode cX7_safeNow 61 = .ok (.goto (-48), 3) := by decide +kernel
theorem dX7_safeNow_64 : decode cX7_safeNow 64 = .ok (.iload_n 1, 1) := by decide +kernel
theorem dX7_safeNow_65 : decode cX7_safeNow 65 = .ok (.ireturn, 1) := by decide +kernel
theorem dX7_snapshotRead_0 : decode cX7_snapshotRead 0 = .ok (.aload_n 0, 1) := by decide +kernel
theorem dX7_snapshotRead_1 : decode cX7_snapshotRead 1 = .ok (.iload_n 1, 1) := by decide +kernel
theorem dX7_snapshotRead_2 : decode cX7_snapshotRead 2 = .ok (.invokestatic 108, 3) := by decide +kernel
theorem dX7_snapshotRead_5 : decode cX7_snapshotRead 5 = .ok (.ifCond .ne 7, 3) := by decide +kernel
theorem dX7_snapshotRead_8 : decode cX7_snapshotRead 8 = .ok (.iconst 1, 1) := by decide +kernel
theorem dX7_snapshotRead_9 : decode cX7_snapshotRead 9 = .ok (.goto 24, 3) := by decide +kernel
theorem dX7_snapshotRead_12 : decode cX7_snapshotRead 12 = .ok (.iload_n 2, 1) := by decide +kernel
theorem dX7_snapshotRead_13 : decode cX7_snapshotRead 13 = .ok (.ifCond .ge 7, 3) := by decide +kernel
theorem dX7_snapshotRead_16 : decode cX7_snapshotRead 16 = .ok (.iconst 2, 1) := by decide +kernel
theorem dX7_snapshotRead_17 : decode cX7_snapshotRead 17 = .ok (.goto 16, 3) := by decide +kernel
theorem dX7_snapshotRead_20 : decode cX7_snapshotRead 20 = .ok (.iload_n 2, 1) := by decide +kernel
theorem dX7_snapshotRead_21 : decode cX7_snapshotRead 21 = .ok (.aload_n 0, 1) := by decide +kernel
theorem dX7_snapshotRead_22 : decode cX7_snapshotRead 22 = .ok (.invokevirtual 179, 3) := by decide +kernel
theorem dX7_snapshotRead_25 : decode cX7_snapshotRead 25 = .ok (.if_icmp .le 7, 3) := by decide +kernel
theorem dX7_snapshotRead_28 : decode cX7_snapshotRead 28 = .ok (.iconst 3, 1) := by decide +kernel
theorem dX7_snapshotRead_29 : decode cX7_snapshotRead 29 = .ok (.goto 4, 3) := by decide +kernel
theorem dX7_snapshotRead_32 : decode cX7_snapshotRead 32 = .ok (.iconst 0, 1) := by decide +kernel
theorem dX7_snapshotRead_33 : decode cX7_snapshotRead 33 = .ok (.invokevirtual 136, 3) := by decide +kernel
theorem dX7_snapshotRead_36 : decode cX7_snapshotRead 36 = .ok (.ifCond .eq 5, 3) := by decide +kernel
theorem dX7_snapshotRead_39 : decode cX7_snapshotRead 39 = .ok (.iconst 0, 1) := by decide +kernel
theorem dX7_snapshotRead_40 : decode cX7_snapshotRead 40 = .ok (.ireturn, 1) := by decide +kernel
theorem dX7_snapshotRead_41 : decode cX7_snapshotRead 41 = .ok (.aload_n 0, 1) := by decide +kernel
theorem dX7_snapshotRead_42 : decode cX7_snapshotRead 42 = .ok (.invokevirtual 139, 3) := by decide +kernel
theorem dX7_snapshotRead_45 : decode cX7_snapshotRead 45 = .ok (.aload_n 0, 1) := by decide +kernel
theorem dX7_snapshotRead_46 : decode cX7_snapshotRead 46 = .ok (.getfield 7, 3) := by decide +kernel
theorem dX7_snapshotRead_49 : decode cX7_snapshotRead 49 = .ok (.iconst 1, 1) := by decide +kernel
theorem dX7_snapshotRead_50 : decode cX7_snapshotRead 50 = .ok (.aload_n 0, 1) := by decide +kernel
theorem dX7_snapshotRead_51 : decode cX7_snapshotRead 51 = .ok (.getfield 7, 3) := by decide +kernel
theorem dX7_snapshotRead_54 : decode cX7_snapshotRead 54 = .ok (.iconst 1, 1) := by decide +kernel
theorem dX7_snapshotRead_55 : decode cX7_snapshotRead 55 = .ok (.iaload, 1) := by decide +kernel
theorem dX7_snapshotRead_56 : decode cX7_snapshotRead 56 = .ok (.iload_n 2, 1) := by decide +kernel
theorem dX7_snapshotRead_57 : decode cX7_snapshotRead 57 = .ok (.invokestatic 77, 3) := by decide +kernel
theorem dX7_snapshotRead_60 : decode cX7_snapshotRead 60 = .ok (.iastore, 1) := by decide +kernel
theorem dX7_snapshotRead_61 : decode cX7_snapshotRead 61 = .ok (.aload_n 0, 1) := by decide +kernel
theorem dX7_snapshotRead_62 : decode cX7_snapshotRead 62 = .ok (.iload_n 1, 1) := by decide +kernel
theorem dX7_snapshotRead_63 : decode cX7_snapshotRead 63 = .ok (.iload_n 2, 1) := by decide +kernel
theorem dX7_snapshotRead_64 : decode cX7_snapshotRead 64 = .ok (.invokevirtual 119, 3) := by decide +kernel
theorem dX7_snapshotRead_67 : decode cX7_snapshotRead 67 = .ok (.ireturn, 1) := by decide +kernel
theorem dX7_appendText_0 : decode cX7_appendText 0 = .ok (.aload_n 0, 1) := by decide +kernel
theorem dX7_appendText_1 : decode cX7_appendText 1 = .ok (.iload_n 1, 1) := by decide +kernel
theorem dX7_appendText_2 : decode cX7_appendText 2 = .ok (.bipush 32, 2) := by decide +kernel
theorem dX7_appendText_4 : decode cX7_appendText 4 = .ok (.bipush 126, 2) := by decide +kernel
theorem dX7_appendText_6 : decode cX7_appendText 6 = .ok (.invokestatic 30, 3) := by decide +kernel
theorem dX7_appendText_9 : decode cX7_appendText 9 = .ok (.ifCond .ne 7, 3) := by decide +kernel
theorem dX7_appendText_12 : decode cX7_appendText 12 = .ok (.iconst 1, 1) := by decide +kernel
theorem dX7_appendText_13 : decode cX7_appendText 13 = .ok (.goto 17, 3) := by decide +kernel
theorem dX7_appendText_16 : decode cX7_appendText 16 = .ok (.aload_n 0, 1) := by decide +kernel
theorem dX7_appendText_17 : decode cX7_appendText 17 = .ok (.getfield 183, 3) := by decide +kernel
theorem dX7_appendText_20 : decode cX7_appendText 20 = .ok (.bipush 80, 2) := by decide +kernel
theorem dX7_appendText_22 : decode cX7_appendText 22 = .ok (.if_icmp .ne 7, 3) := by decide +kernel
theorem dX7_appendText_25 : decode cX7_appendText 25 = .ok (.iconst 2, 1) := by decide +kernel
theorem dX7_appendText_26 : decode cX7_appendText 26 = .ok (.goto 4, 3) := by decide +kernel
theorem dX7_appendText_29 : decode cX7_appendText 29 = .ok (.iconst 0, 1) := by decide +kernel
theorem dX7_appendText_30 : decode cX7_appendText 30 = .ok (.invokevirtual 136, 3) := by decide +kernel
theorem dX7_appendText_33 : decode cX7_appendText 33 = .ok (.ifCond .eq 5, 3) := by decide +kernel
theorem dX7_appendText_36 : decode cX7_appendText 36 = .ok (.iconst 0, 1) := by decide +kernel
theorem dX7_appendText_37 : decode cX7_appendText 37 = .ok (.ireturn, 1) := by decide +kernel
theorem dX7_appendText_38 : decode cX7_appendText 38 = .ok (.aload_n 0, 1) := by decide +kernel
theorem dX7_appendText_39 : decode cX7_appendText 39 = .ok (.getfield 23, 3) := by decide +kernel
theorem dX7_appendText_42 : decode cX7_appendText 42 = .ok (.aload_n 0, 1) := by decide +kernel
theorem dX7_appendText_43 : decode cX7_appendText 43 = .ok (.getfield 183, 3) := by decide +kernel
theorem dX7_appendText_46 : decode cX7_appendText 46 = .ok (.iload_n 1, 1) := by decide +kernel
theorem dX7_appendText_47 : decode cX7_appendText 47 = .ok (.iastore, 1) := by decide +kernel
theorem dX7_appendText_48 : decode cX7_appendText 48 = .ok (.aload_n 0, 1) := by decide +kernel
theorem dX7_appendText_49 : decode cX7_appendText 49 = .ok (.dup, 1) := by decide +kernel
theorem dX7_appendText_50 : decode cX7_appendText 50 = .ok (.getfield 183, 3) := by decide +kernel
theorem dX7_appendText_53 : decode cX7_appendText 53 = .ok (.iconst 1, 1) := by decide +kernel
theorem dX7_appendText_54 : decode cX7_appendText 54 = .ok (.iadd, 1) := by decide +kernel
theorem dX7_appendText_55 : decode cX7_appendText 55 = .ok (.putfield 183, 3) := by decide +kernel
theorem dX7_appendText_58 : decode cX7_appendText 58 = .ok (.aload_n 0, 1) := by decide +kernel
theorem dX7_appendText_59 : decode cX7_appendText 59 = .ok (.getfield 183, 3) := by decide +kernel
theorem dX7_appendText_62 : decode cX7_appendText 62 = .ok (.ireturn, 1) := by decide +kernel
theorem dX7_clearText_0 : decode cX7_clearText 0 = .ok (.aload_n 0, 1) := by decide +kernel
theorem dX7_clearText_1 : decode cX7_clearText 1 = .ok (.iconst 0, 1) := by decide +kernel
theorem dX7_clearText_2 : decode cX7_clearText 2 = .ok (.putfield 26, 3) := by decide +kernel
theorem dX7_clearText_5 : decode cX7_clearText 5 = .ok (.aload_n 0, 1) := by decide +kernel
theorem dX7_clearText_6 : decode cX7_clearText 6 = .ok (.getfield 183, 3) := by decide +kernel
theorem dX7_clearText_9 : decode cX7_clearText 9 = .ok (.istore_n 1, 1) := by decide +kernel
theorem dX7_clearText_10 : decode cX7_clearText 10 = .ok (.aload_n 0, 1) := by decide +kernel
theorem dX7_clearText_11 : decode cX7_clearText 11 = .ok (.iconst 0, 1) := by decide +kernel
theorem dX7_clearText_12 : decode cX7_clearText 12 = .ok (.putfield 183, 3) := by decide +kernel
theorem dX7_clearText_15 : decode cX7_clearText 15 = .ok (.iload_n 1, 1) := by decide +kernel
theorem dX7_clearText_16 : decode cX7_clearText 16 = .ok (.ireturn, 1) := by decide +kernel
theorem dX7_sign_0 : decode cX7_sign 0 = .ok (.iload_n 1, 1) := by decide +kernel
theorem dX7_sign_1 : decode cX7_sign 1 = .ok (.aload_n 0, 1) := by decide +kernel
theorem dX7_sign_2 : decode cX7_sign 2 = .ok (.getfield 183, 3) := by decide +kernel
theorem dX7_sign_5 : decode cX7_sign 5 = .ok (.if_icmp .ge 12, 3) := by decide +kernel
theorem dX7_sign_8 : decode cX7_sign 8 = .ok (.aload_n 0, 1) := by decide +kernel
theorem dX7_sign_9 : decode cX7_sign 9 = .ok (.getfield 23, 3) := by decide +kernel
theorem dX7_sign_12 : decode cX7_sign 12 = .ok (.iload_n 1, 1) := by decide +kernel
theorem dX7_sign_13 : decode cX7_sign 13 = .ok (.iaload, 1) := by decide +kernel
theorem dX7_sign_14 : decode cX7_sign 14 = .ok (.goto 4, 3) := by decide +kernel
theorem dX7_sign_17 : decode cX7_sign 17 = .ok (.iconst (-1), 1) := by decide +kernel
theorem dX7_sign_18 : decode cX7_sign 18 = .ok (.ireturn, 1) := by decide +kernel
theorem dX7_digit_0 : decode cX7_digit 0 = .ok (.aload_n 0, 1) := by decide +kernel
theorem dX7_digit_1 : decode cX7_digit 1 = .ok (.iload_n 1, 1) := by decide +kernel
theorem dX7_digit_2 : decode cX7_digit 2 = .ok (.invokevirtual 186, 3) := by decide +kernel
theorem dX7_digit_5 : decode cX7_digit 5 = .ok (.bipush 48, 2) := by decide +kernel
theorem dX7_digit_7 : decode cX7_digit 7 = .ok (.bipush 57, 2) := by decide +kernel
theorem dX7_digit_9 : decode cX7_digit 9 = .ok (.invokestatic 30, 3) := by decide +kernel
theorem dX7_digit_12 : decode cX7_digit 12 = .ok (.ifCond .eq 14, 3) := by decide +kernel
theorem dX7_digit_15 : decode cX7_digit 15 = .ok (.aload_n 0, 1) := by decide +kernel
theorem dX7_digit_16 : decode cX7_digit 16 = .ok (.iload_n 1, 1) := by decide +kernel
theorem dX7_digit_17 : decode cX7_digit 17 = .ok (.invokevirtual 186, 3) := by decide +kernel
theorem dX7_digit_20 : decode cX7_digit 20 = .ok (.bipush 48, 2) := by decide +kernel
theorem dX7_digit_22 : decode cX7_digit 22 = .ok (.isub, 1) := by decide +kernel
theorem dX7_digit_23 : decode cX7_digit 23 = .ok (.goto 4, 3) := by decide +kernel
theorem dX7_digit_26 : decode cX7_digit 26 = .ok (.iconst (-1), 1) := by decide +kernel
theorem dX7_digit_27 : decode cX7_digit 27 = .ok (.ireturn, 1) := by decide +kernel
theorem dX7_numberEnd_0 : decode cX7_numberEnd 0 = .ok (.iload_n 1, 1) := by decide +kernel
theorem dX7_numberEnd_1 : decode cX7_numberEnd 1 = .ok (.ifCond .ge 5, 3) := by decide +kernel
theorem dX7_numberEnd_4 : decode cX7_numberEnd 4 = .ok (.iload_n 1, 1) := by decide +kernel
theorem dX7_numberEnd_5 : decode cX7_numberEnd 5 = .ok (.ireturn, 1) := by decide +kernel
theorem dX7_numberEnd_6 : decode cX7_numberEnd 6 = .ok (.aload_n 0, 1) := by decide +kernel
theorem dX7_numberEnd_7 : decode cX7_numberEnd 7 = .ok (.iload_n 1, 1) := by decide +kernel
theorem dX7_numberEnd_8 : decode cX7_numberEnd 8 = .ok (.invokevirtual 189, 3) := by decide +kernel
theorem dX7_numberEnd_11 : decode cX7_numberEnd 11 = .ok (.istore 4, 2) := by decide +kernel
theorem dX7_numberEnd_13 : decode cX7_numberEnd 13 = .ok (.iload 4, 2) := by decide +kernel
theorem dX7_numberEnd_15 : decode cX7_numberEnd 15 = .ok (.iload_n 2, 1) := by decide +kernel
theorem dX7_numberEnd_16 : decode cX7_numberEnd 16 = .ok (.if_icmp .lt 9, 3) := by decide +kernel
theorem dX7_numberEnd_19 : decode cX7_numberEnd 19 = .ok (.iload 4, 2) := by decide +kernel
theorem dX7_numberEnd_21 : decode cX7_numberEnd 21 = .ok (.iload_n 3, 1) := by decide +kernel
theorem dX7_numberEnd_22 : decode cX7_numberEnd 22 = .ok (.if_icmp .le 7, 3) := by decide +kernel
theorem dX7_numberEnd_25 : decode cX7_numberEnd 25 = .ok (.iconst (-1), 1) := by decide +kernel
theorem dX7_numberEnd_26 : decode cX7_numberEnd 26 = .ok (.iload_n 1, 1) := by decide +kernel
theorem dX7_numberEnd_27 : decode cX7_numberEnd 27 = .ok (.isub, 1) := by decide +kernel
theorem dX7_numberEnd_28 : decode cX7_numberEnd 28 = .ok (.ireturn, 1) := by decide +kernel
theorem dX7_numberEnd_29 : decode cX7_numberEnd 29 = .ok (.iload_n 1, 1) := by decide +kernel
theorem dX7_numberEnd_30 : decode cX7_numberEnd 30 = .ok (.iconst 1, 1) := by decide +kernel
theorem dX7_numberEnd_31 : decode cX7_numberEnd 31 = .ok (.iadd, 1) := by decide +kernel
theorem dX7_numberEnd_32 : decode cX7_numberEnd 32 = .ok (.istore 5, 2) := by decide +kernel
theorem dX7_numberEnd_34 : decode cX7_numberEnd 34 = .ok (.iload 4, 2) := by decide +kernel
theorem dX7_numberEnd_36 : decode cX7_numberEnd 36 = .ok (.ifCond .le 48, 3) := by decide +kernel
theorem dX7_numberEnd_39 : decode cX7_numberEnd 39 = .ok (.aload_n 0, 1) := by decide +kernel
theorem dX7_numberEnd_40 : decode cX7_numberEnd 40 = .ok (.iload 5, 2) := by decide +kernel
theorem dX7_numberEnd_42 : decode cX7_numberEnd 42 = .ok (.invokevirtual 189, 3) := by decide +kernel
theorem dX7_numberEnd_45 : decode cX7_numberEnd 45 = .ok (.ifCond .lt 39, 3) := by decide +kernel
theorem dX7_numberEnd_48 : decode cX7_numberEnd 48 = .ok (.bipush 10, 2) := by decide +kernel
theorem dX7_numberEnd_50 : decode cX7_numberEnd 50 = .ok (.iload 4, 2) := by decide +kernel
theorem dX7_numberEnd_52 : decode cX7_numberEnd 52 = .ok (.imul, 1) := by decide +kernel
theorem dX7_numberEnd_53 : decode cX7_numberEnd 53 = .ok (.aload_n 0, 1) := by decide +kernel
theorem dX7_numberEnd_54 : decode cX7_numberEnd 54 = .ok (.iload 5, 2) := by decide +kernel
theorem dX7_numberEnd_56 : decode cX7_numberEnd 56 = .ok (.invokevirtual 189, 3) := by decide +kernel
theorem dX7_numberEnd_59 : decode cX7_numberEnd 59 = .ok (.iadd, 1) := by decide +kernel
theorem dX7_numberEnd_60 : decode cX7_numberEnd 60 = .ok (.iload_n 3, 1) := by decide +kernel
theorem dX7_numberEnd_61 : decode cX7_numberEnd 61 = .ok (.if_icmp .gt 23, 3) := by decide +kernel
theorem dX7_numberEnd_64 : decode cX7_numberEnd 64 = .ok (.bipush 10, 2) := by decide +kernel
theorem dX7_numberEnd_66 : decode cX7_numberEnd 66 = .ok (.iload 4, 2) := by decide +kernel
theorem dX7_numberEnd_68 : decode cX7_numberEnd 68 = .ok (.imul, 1) := by decide +kernel
theorem dX7_numberEnd_69 : decode cX7_numberEnd 69 = .ok (.aload_n 0, 1) := by decide +kernel
theorem dX7_numberEnd_70 : decode cX7_numberEnd 70 = .ok (.iload 5, 2) := by decide +kernel
theorem dX7_numberEnd_72 : decode cX7_numberEnd 72 = .ok (.invokevirtual 189, 3) := by decide +kernel
theorem dX7_numberEnd_75 : decode cX7_numberEnd 75 = .ok (.iadd, 1) := by decide +kernel
theorem dX7_numberEnd_76 : decode cX7_numberEnd 76 = .ok (.istore 4, 2) := by decide +kernel
theorem dX7_numberEnd_78 : decode cX7_numberEnd 78 = .ok (.iinc 5 1, 3) := by decide +kernel
theorem dX7_numberEnd_81 : decode cX7_numberEnd 81 = .ok (.goto (-47), 3) := by decide +kernel
theorem dX7_numberEnd_84 : decode cX7_numberEnd 84 = .ok (.iload 5, 2) := by decide +kernel
theorem dX7_numberEnd_86 : decode cX7_numberEnd 86 = .ok (.ireturn, 1) := by decide +kernel
theorem dX7_behind_0 : decode cX7_behind 0 = .ok (.iload_n 1, 1) := by decide +kernel
theorem dX7_behind_1 : decode cX7_behind 1 = .ok (.ifCond .ge 7, 3) := by decide +kernel
theorem dX7_behind_4 : decode cX7_behind 4 = .ok (.iload_n 1, 1) := by decide +kernel
theorem dX7_behind_5 : decode cX7_behind 5 = .ok (.goto 21, 3) := by decide +kernel
theorem dX7_behind_8 : decode cX7_behind 8 = .ok (.aload_n 0, 1) := by decide +kernel
theorem dX7_behind_9 : decode cX7_behind 9 = .ok (.iload_n 1, 1) := by decide +kernel
theorem dX7_behind_10 : decode cX7_behind 10 = .ok (.invokevirtual 186, 3) := by decide +kernel
theorem dX7_behind_13 : decode cX7_behind 13 = .ok (.iload_n 2, 1) := by decide +kernel
theorem dX7_behind_14 : decode cX7_behind 14 = .ok (.if_icmp .ne 9, 3) := by decide +kernel
theorem dX7_behind_17 : decode cX7_behind 17 = .ok (.iload_n 1, 1) := by decide +kernel
theorem dX7_behind_18 : decode cX7_behind 18 = .ok (.iconst 1, 1) := by decide +kernel
theorem dX7_behind_19 : decode cX7_behind 19 = .ok (.iadd, 1) := by decide +kernel
theorem dX7_behind_20 : decode cX7_behind 20 = .ok (.goto 6, 3) := by decide +kernel
theorem dX7_behind_23 : decode cX7_behind 23 = .ok (.iconst (-1), 1) := by decide +kernel
theorem dX7_behind_24 : decode cX7_behind 24 = .ok (.iload_n 1, 1) := by decide +kernel
theorem dX7_behind_25 : decode cX7_behind 25 = .ok (.isub, 1) := by decide +kernel
theorem dX7_behind_26 : decode cX7_behind 26 = .ok (.ireturn, 1) := by decide +kernel
theorem dX7_numberBehind_0 : decode cX7_numberBehind 0 = .ok (.aload_n 0, 1) := by decide +kernel
theorem dX7_numberBehind_1 : decode cX7_numberBehind 1 = .ok (.aload_n 0, 1) := by decide +kernel
theorem dX7_numberBehind_2 : decode cX7_numberBehind 2 = .ok (.iload_n 1, 1) := by decide +kernel
theorem dX7_numberBehind_3 : decode cX7_numberBehind 3 = .ok (.bipush 44, 2) := by decide +kernel
theorem dX7_numberBehind_5 : decode cX7_numberBehind 5 = .ok (.invokevirtual 192, 3) := by decide +kernel
theorem dX7_numberBehind_8 : decode cX7_numberBehind 8 = .ok (.iconst 0, 1) := by decide +kernel
theorem dX7_numberBehind_9 : decode cX7_numberBehind 9 = .ok (.iload_n 2, 1) := by decide +kernel
theorem dX7_numberBehind_10 : decode cX7_numberBehind 10 = .ok (.invokevirtual 195, 3) := by decide +kernel
theorem dX7_numberBehind_13 : decode cX7_numberBehind 13 = .ok (.ireturn, 1) := by decide +kernel
theorem dX7_offsetEnd_0 : decode cX7_offsetEnd 0 = .ok (.aload_n 0, 1) := by decide +kernel
theorem dX7_offsetEnd_1 : decode cX7_offsetEnd 1 = .ok (.iload_n 1, 1) := by decide +kernel
theorem dX7_offsetEnd_2 : decode cX7_offsetEnd 2 = .ok (.bipush 44, 2) := by decide +kernel
theorem dX7_offsetEnd_4 : decode cX7_offsetEnd 4 = .ok (.invokevirtual 192, 3) := by decide +kernel
theorem dX7_offsetEnd_7 : decode cX7_offsetEnd 7 = .ok (.istore_n 2, 1) := by decide +kernel
theorem dX7_offsetEnd_8 : decode cX7_offsetEnd 8 = .ok (.iload_n 2, 1) := by decide +kernel
theorem dX7_offsetEnd_9 : decode cX7_offsetEnd 9 = .ok (.ifCond .lt 17, 3) := by decide +kernel
theorem dX7_offsetEnd_12 : decode cX7_offsetEnd 12 = .ok (.aload_n 0, 1) := by decide +kernel
theorem dX7_offsetEnd_13 : decode cX7_offsetEnd 13 = .ok (.iload_n 2, 1) := by decide +kernel
theorem dX7_offsetEnd_14 : decode cX7_offsetEnd 14 = .ok (.invokevirtual 186, 3) := by decide +kernel
theorem dX7_offsetEnd_17 : decode cX7_offsetEnd 17 = .ok (.bipush 45, 2) := by decide +kernel
theorem dX7_offsetEnd_19 : decode cX7_offsetEnd 19 = .ok (.if_icmp .ne 7, 3) := by decide +kernel
theorem dX7_offsetEnd_22 : decode cX7_offsetEnd 22 = .ok (.iconst 1, 1) := by decide +kernel
theorem dX7_offsetEnd_23 : decode cX7_offsetEnd 23 = .ok (.goto 4, 3) := by decide +kernel
theorem dX7_offsetEnd_26 : decode cX7_offsetEnd 26 = .ok (.iconst 0, 1) := by decide +kernel
theorem dX7_offsetEnd_27 : decode cX7_offsetEnd 27 = .ok (.istore_n 3, 1) := by decide +kernel
theorem dX7_offsetEnd_28 : decode cX7_offsetEnd 28 = .ok (.aload_n 0, 1) := by decide +kernel
theorem dX7_offsetEnd_29 : decode cX7_offsetEnd 29 = .ok (.iload_n 3, 1) := by decide +kernel
theorem dX7_offsetEnd_30 : decode cX7_offsetEnd 30 = .ok (.ifCond .eq 9, 3) := by decide +kernel
theorem dX7_offsetEnd_33 : decode cX7_offsetEnd 33 = .ok (.iload_n 2, 1) := by decide +kernel
theorem dX7_offsetEnd_34 : decode cX7_offsetEnd 34 = .ok (.iconst 1, 1) := by decide +kernel
theorem dX7_offsetEnd_35 : decode cX7_offsetEnd 35 = .ok (.iadd, 1) := by decide +kernel
theorem dX7_offsetEnd_36 : decode cX7_offsetEnd 36 = .ok (.goto 4, 3) := by decide +kernel
theorem dX7_offsetEnd_39 : decode cX7_offsetEnd 39 = .ok (.iload_n 2, 1) := by decide +kernel
theorem dX7_offsetEnd_40 : decode cX7_offsetEnd 40 = .ok (.iload_n 3, 1) := by decide +kernel
theorem dX7_offsetEnd_41 : decode cX7_offsetEnd 41 = .ok (.ifCond .eq 7, 3) := by decide +kernel
theorem dX7_offsetEnd_44 : decode cX7_offsetEnd 44 = .ok (.iconst 1, 1) := by decide +kernel
theorem dX7_offsetEnd_45 : decode cX7_offsetEnd 45 = .ok (.goto 4, 3) := by decide +kernel
theorem dX7_offsetEnd_48 : decode cX7_offsetEnd 48 = .ok (.iconst 0, 1) := by decide +kernel
theorem dX7_offsetEnd_49 : decode cX7_offsetEnd 49 = .ok (.sipush 500, 3) := by decide +kernel
theorem dX7_offsetEnd_52 : decode cX7_offsetEnd 52 = .ok (.invokevirtual 195, 3) := by decide +kernel
theorem dX7_offsetEnd_55 : decode cX7_offsetEnd 55 = .ok (.ireturn, 1) := by decide +kernel
theorem dX7_commandEnd_0 : decode cX7_commandEnd 0 = .ok (.aload_n 0, 1) := by decide +kernel
theorem dX7_commandEnd_1 : decode cX7_commandEnd 1 = .ok (.iload_n 1, 1) := by decide +kernel
theorem dX7_commandEnd_2 : decode cX7_commandEnd 2 = .ok (.invokevirtual 186, 3) := by decide +kernel
theorem dX7_commandEnd_5 : decode cX7_commandEnd 5 = .ok (.tableswitch 197 97 119 #[160, 107, 160, 197, 197, 197, 197, 197, 197, 197, 197, 197, 197, 197, 197, 197, 197, 117, 183, 171, 197, 197, 134], 107) := by decide +kernel
theorem dX7_commandEnd_112 : decode cX7_commandEnd 112 = .ok (.aload_n 0, 1) := by decide +kernel
theorem dX7_commandEnd_113 : decode cX7_commandEnd 113 = .ok (.iload_n 1, 1) := by decide +kernel
theorem dX7_commandEnd_114 : decode cX7_commandEnd 114 = .ok (.iconst 1, 1) := by decide +kernel
theorem dX7_commandEnd_115 : decode cX7_commandEnd 115 = .ok (.iadd, 1) := by decide +kernel
theorem dX7_commandEnd_116 : decode cX7_commandEnd 116 = .ok (.iconst 0, 1) := by decide +kernel
theorem dX7_commandEnd_117 : decode cX7_commandEnd 117 = .ok (.iconst 2, 1) := by decide +kernel
theorem dX7_commandEnd_118 : decode cX7_commandEnd 118 = .ok (.invokevirtual 195, 3) := by decide +kernel
theorem dX7_commandEnd_121 : decode cX7_commandEnd 121 = .ok (.ireturn, 1) := by decide +kernel
theorem dX7_commandEnd_122 : decode cX7_commandEnd 122 = .ok (.aload_n 0, 1) := by decide +kernel
theorem dX7_commandEnd_123 : decode cX7_commandEnd 123 = .ok (.aload_n 0, 1) := by decide +kernel
theorem dX7_commandEnd_124 : decode cX7_commandEnd 124 = .ok (.iload_n 1, 1) := by decide +kernel
theorem dX7_commandEnd_125 : decode cX7_commandEnd 125 = .ok (.iconst 1, 1) := by decide +kernel
theorem dX7_commandEnd_126 : decode cX7_commandEnd 126 = .ok (.iadd, 1) := by decide +kernel
theorem dX7_commandEnd_127 : decode cX7_commandEnd 127 = .ok (.iconst 0, 1) := by decide +kernel
theorem dX7_commandEnd_128 : decode cX7_commandEnd 128 = .ok (.bipush 39, 2) := by decide +kernel
theorem dX7_commandEnd_130 : decode cX7_commandEnd 130 = .ok (.invokevirtual 195, 3) := by decide +kernel
theorem dX7_commandEnd_133 : decode cX7_commandEnd 133 = .ok (.bipush 7, 2) := by decide +kernel
theorem dX7_commandEnd_135 : decode cX7_commandEnd 135 = .ok (.invokevirtual 198, 3) := by decide +kernel
theorem dX7_commandEnd_138 : decode cX7_commandEnd 138 = .ok (.ireturn, 1) := by decide +kernel
theorem dX7_commandEnd_139 : decode cX7_commandEnd 139 = .ok (.aload_n 0, 1) := by decide +kernel
theorem dX7_commandEnd_140 : decode cX7_commandEnd 140 = .ok (.aload_n 0, 1) := by decide +kernel
theorem dX7_commandEnd_141 : decode cX7_commandEnd 141 = .ok (.iload_n 1, 1) := by decide +kernel
theorem dX7_commandEnd_142 : decode cX7_commandEnd 142 = .ok (.iconst 1, 1) := by decide +kernel
theorem dX7_commandEnd_143 : decode cX7_commandEnd 143 = .ok (.iadd, 1) := by decide +kernel
theorem dX7_commandEnd_144 : decode cX7_commandEnd 144 = .ok (.iconst 0, 1) := by decide +kernel
theorem dX7_commandEnd_145 : decode cX7_commandEnd 145 = .ok (.bipush 39, 2) := by decide +kernel
theorem dX7_commandEnd_147 : decode cX7_commandEnd 147 = .ok (.invokevirtual 195, 3) := by decide +kernel
theorem dX7_commandEnd_150 : decode cX7_commandEnd 150 = .ok (.bipush 7, 2) := by decide +kernel
theorem dX7_commandEnd_152 : decode cX7_commandEnd 152 = .ok (.invokevirtual 198, 3) := by decide +kernel
theorem dX7_commandEnd_155 : decode cX7_commandEnd 155 = .ok (.istore_n 2, 1) := by decide +kernel
theorem dX7_commandEnd_156 : decode cX7_commandEnd 156 = .ok (.aload_n 0, 1) := by decide +kernel
theorem dX7_commandEnd_157 : decode cX7_commandEnd 157 = .ok (.iload_n 2, 1) := by decide +kernel
theorem dX7_commandEnd_158 : decode cX7_commandEnd 158 = .ok (.sipush 9999, 3) := by decide +kernel
theorem dX7_commandEnd_161 : decode cX7_commandEnd 161 = .ok (.invokevirtual 198, 3) := by decide +kernel
theorem dX7_commandEnd_164 : decode cX7_commandEnd 164 = .ok (.ireturn, 1) := by decide +kernel
theorem dX7_commandEnd_165 : decode cX7_commandEnd 165 = .ok (.aload_n 0, 1) := by decide +kernel
theorem dX7_commandEnd_166 : decode cX7_commandEnd 166 = .ok (.iload_n 1, 1) := by decide +kernel
theorem dX7_commandEnd_167 : decode cX7_commandEnd 167 = .ok (.iconst 1, 1) := by decide +kernel
theorem dX7_commandEnd_168 : decode cX7_commandEnd 168 = .ok (.iadd, 1) := by decide +kernel
theorem dX7_commandEnd_169 : decode cX7_commandEnd 169 = .ok (.iconst 0, 1) := by decide +kernel
theorem dX7_commandEnd_170 : decode cX7_commandEnd 170 = .ok (.bipush 39, 2) := by decide +kernel
theorem dX7_commandEnd_172 : decode cX7_commandEnd 172 = .ok (.invokevirtual 195, 3) := by decide +kernel
theorem dX7_commandEnd_175 : decode cX7_commandEnd 175 = .ok (.ireturn, 1) := by decide +kernel
theorem dX7_commandEnd_176 : decode cX7_commandEnd 176 = .ok (.aload_n 0, 1) := by decide +kernel
theorem dX7_commandEnd_177 : decode cX7_commandEnd 177 = .ok (.iload_n 1, 1) := by decide +kernel
theorem dX7_commandEnd_178 : decode cX7_commandEnd 178 = .ok (.iconst 1, 1) := by decide +kernel
theorem dX7_commandEnd_179 : decode cX7_commandEnd 179 = .ok (.iadd, 1) := by decide +kernel
theorem dX7_commandEnd_180 : decode cX7_commandEnd 180 = .ok (.iconst 1, 1) := by decide +kernel
theorem dX7_commandEnd_181 : decode cX7_commandEnd 181 = .ok (.sipush 1000, 3) := by decide +kernel
theorem dX7_commandEnd_184 : decode cX7_commandEnd 184 = .ok (.invokevirtual 195, 3) := by decide +kernel
theorem dX7_commandEnd_187 : decode cX7_commandEnd 187 = .ok (.ireturn, 1) := by decide +kernel
theorem dX7_commandEnd_188 : decode cX7_commandEnd 188 = .ok (.aload_n 0, 1) := by decide +kernel
theorem dX7_commandEnd_189 : decode cX7_commandEnd 189 = .ok (.aload_n 0, 1) := by decide +kernel
theorem dX7_commandEnd_190 : decode cX7_commandEnd 190 = .ok (.iload_n 1, 1) := by decide +kernel
theorem dX7_commandEnd_191 : decode cX7_commandEnd 191 = .ok (.iconst 1, 1) := by decide +kernel
theorem dX7_commandEnd_192 : decode cX7_commandEnd 192 = .ok (.iadd, 1) := by decide +kernel
theorem dX7_commandEnd_193 : decode cX7_commandEnd 193 = .ok (.iconst 0, 1) := by decide +kernel
theorem dX7_commandEnd_194 : decode cX7_commandEnd 194 = .ok (.iconst 2, 1) := by decide +kernel
theorem dX7_commandEnd_195 : decode cX7_commandEnd 195 = .ok (.invokevirtual 195, 3) := by decide +kernel
theorem dX7_commandEnd_198 : decode cX7_commandEnd 198 = .ok (.invokevirtual 201, 3) := by decide +kernel
theorem dX7_commandEnd_201 : decode cX7_commandEnd 201 = .ok (.ireturn, 1) := by decide +kernel
theorem dX7_commandEnd_202 : decode cX7_commandEnd 202 = .ok (.iconst (-1), 1) := by decide +kernel
theorem dX7_commandEnd_203 : decode cX7_commandEnd 203 = .ok (.iload_n 1, 1) := by decide +kernel
theorem dX7_commandEnd_204 : decode cX7_commandEnd 204 = .ok (.isub, 1) := by decide +kernel
theorem dX7_commandEnd_205 : decode cX7_commandEnd 205 = .ok (.ireturn, 1) := by decide +kernel
theorem dX7_error_0 : decode cX7_error 0 = .ok (.iconst 0, 1) := by decide +kernel
theorem dX7_error_1 : decode cX7_error 1 = .ok (.istore_n 1, 1) := by decide +kernel
theorem dX7_error_2 : decode cX7_error 2 = .ok (.iconst 0, 1) := by decide +kernel
theorem dX7_error_3 : decode cX7_error 3 = .ok (.istore_n 2, 1) := by decide +kernel
theorem dX7_error_4 : decode cX7_error 4 = .ok (.iload_n 2, 1) := by decide +kernel
theorem dX7_error_5 : decode cX7_error 5 = .ok (.bipush 80, 2) := by decide +kernel
theorem dX7_error_7 : decode cX7_error 7 = .ok (.if_icmp .ge 49, 3) := by decide +kernel
theorem dX7_error_10 : decode cX7_error 10 = .ok (.aload_n 0, 1) := by decide +kernel
theorem dX7_error_11 : decode cX7_error 11 = .ok (.iload_n 1, 1) := by decide +kernel
theorem dX7_error_12 : decode cX7_error 12 = .ok (.invokevirtual 204, 3) := by decide +kernel
theorem dX7_error_15 : decode cX7_error 15 = .ok (.istore_n 3, 1) := by decide +kernel
theorem dX7_error_16 : decode cX7_error 16 = .ok (.iload_n 3, 1) := by decide +kernel
theorem dX7_error_17 : decode cX7_error 17 = .ok (.ifCond .ge 7, 3) := by decide +kernel
theorem dX7_error_20 : decode cX7_error 20 = .ok (.iconst (-1), 1) := by decide +kernel
theorem dX7_error_21 : decode cX7_error 21 = .ok (.iload_n 3, 1) := by decide +kernel
theorem dX7_error_22 : decode cX7_error 22 = .ok (.isub, 1) := by decide +kernel
theorem dX7_error_23 : decode cX7_error 23 = .ok (.ireturn, 1) := by decide +kernel
theorem dX7_error_24 : decode cX7_error 24 = .ok (.iload_n 3, 1) := by decide +kernel
theorem dX7_error_25 : decode cX7_error 25 = .ok (.aload_n 0, 1) := by decide +kernel
theorem dX7_error_26 : decode cX7_error 26 = .ok (.getfield 183, 3) := by decide +kernel
theorem dX7_error_29 : decode cX7_error 29 = .ok (.if_icmp .ne 5, 3) := by decide +kernel
theorem dX7_error_32 : decode cX7_error 32 = .ok (.iconst (-1), 1) := by decide +kernel
theorem dX7_error_33 : decode cX7_error 33 = .ok (.ireturn, 1) := by decide +kernel
theorem dX7_error_34 : decode cX7_error 34 = .ok (.aload_n 0, 1) := by decide +kernel
theorem dX7_error_35 : decode cX7_error 35 = .ok (.iload_n 3, 1) := by decide +kernel
theorem dX7_error_36 : decode cX7_error 36 = .ok (.invokevirtual 186, 3) := by decide +kernel
theorem dX7_error_39 : decode cX7_error 39 = .ok (.bipush 59, 2) := by decide +kernel
theorem dX7_error_41 : decode cX7_error 41 = .ok (.if_icmp .eq 5, 3) := by decide +kernel
theorem dX7_error_44 : decode cX7_error 44 = .ok (.iload_n 3, 1) := by decide +kernel
theorem dX7_error_45 : decode cX7_error 45 = .ok (.ireturn, 1) := by decide +kernel
theorem dX7_error_46 : decode cX7_error 46 = .ok (.iload_n 3, 1) := by decide +kernel
theorem dX7_error_47 : decode cX7_error 47 = .ok (.iconst 1, 1) := by decide +kernel
theorem dX7_error_48 : decode cX7_error 48 = .ok (.iadd, 1) := by decide +kernel
theorem dX7_error_49 : decode cX7_error 49 = .ok (.istore_n 1, 1) := by decide +kernel
theorem dX7_error_50 : decode cX7_error 50 = .ok (.iinc 2 1, 3) := by decide +kernel
theorem dX7_error_53 : decode cX7_error 53 = .ok (.goto (-49), 3) := by decide +kernel
theorem dX7_error_56 : decode cX7_error 56 = .ok (.iconst (-1), 1) := by decide +kernel
theorem dX7_error_57 : decode cX7_error 57 = .ok (.ireturn, 1) := by decide +kernel
theorem dX7_errorPosition_0 : decode cX7_errorPosition 0 = .ok (.aload_n 0, 1) := by decide +kernel
theorem dX7_errorPosition_1 : decode cX7_errorPosition 1 = .ok (.iconst 0, 1) := by decide +kernel
theorem dX7_errorPosition_2 : decode cX7_errorPosition 2 = .ok (.putfield 26, 3) := by decide +kernel
theorem dX7_errorPosition_5 : decode cX7_errorPosition 5 = .ok (.aload_n 0, 1) := by decide +kernel
theorem dX7_errorPosition_6 : decode cX7_errorPosition 6 = .ok (.invokevirtual 207, 3) := by decide +kernel
theorem dX7_errorPosition_9 : decode cX7_errorPosition 9 = .ok (.ireturn, 1) := by decide +kernel
theorem dX7_numberAt_0 : decode cX7_numberAt 0 = .ok (.aload_n 0, 1) := by decide +kernel
theorem dX7_numberAt_1 : decode cX7_numberAt 1 = .ok (.iload_n 1, 1) := by decide +kernel
theorem dX7_numberAt_2 : decode cX7_numberAt 2 = .ok (.invokevirtual 186, 3) := by decide +kernel
theorem dX7_numberAt_5 : decode cX7_numberAt 5 = .ok (.bipush 45, 2) := by decide +kernel
theorem dX7_numberAt_7 : decode cX7_numberAt 7 = .ok (.if_icmp .ne 7, 3) := by decide +kernel
theorem dX7_numberAt_10 : decode cX7_numberAt 10 = .ok (.iconst 1, 1) := by decide +kernel
theorem dX7_numberAt_11 : decode cX7_numberAt 11 = .ok (.goto 4, 3) := by decide +kernel
theorem dX7_numberAt_14 : decode cX7_numberAt 14 = .ok (.iconst 0, 1) := by decide +kernel
theorem dX7_numberAt_15 : decode cX7_numberAt 15 = .ok (.istore_n 2, 1) := by decide +kernel
theorem dX7_numberAt_16 : decode cX7_numberAt 16 = .ok (.iconst 0, 1) := by decide +kernel
theorem dX7_numberAt_17 : decode cX7_numberAt 17 = .ok (.istore_n 3, 1) := by decide +kernel
theorem dX7_numberAt_18 : decode cX7_numberAt 18 = .ok (.iload_n 2, 1) := by decide +kernel
theorem dX7_numberAt_19 : decode cX7_numberAt 19 = .ok (.ifCond .eq 9, 3) := by decide +kernel
theorem dX7_numberAt_22 : decode cX7_numberAt 22 = .ok (.iload_n 1, 1) := by decide +kernel
theorem dX7_numberAt_23 : decode cX7_numberAt 23 = .ok (.iconst 1, 1) := by decide +kernel
theorem dX7_numberAt_24 : decode cX7_numberAt 24 = .ok (.iadd, 1) := by decide +kernel
theorem dX7_numberAt_25 : decode cX7_numberAt 25 = .ok (.goto 4, 3) := by decide +kernel
theorem dX7_numberAt_28 : decode cX7_numberAt 28 = .ok (.iload_n 1, 1) := by decide +kernel
theorem dX7_numberAt_29 : decode cX7_numberAt 29 = .ok (.istore 4, 2) := by decide +kernel
theorem dX7_numberAt_31 : decode cX7_numberAt 31 = .ok (.aload_n 0, 1) := by decide +kernel
theorem dX7_numberAt_32 : decode cX7_numberAt 32 = .ok (.iload 4, 2) := by decide +kernel
theorem dX7_numberAt_34 : decode cX7_numberAt 34 = .ok (.invokevirtual 189, 3) := by decide +kernel
theorem dX7_numberAt_37 : decode cX7_numberAt 37 = .ok (.ifCond .lt 21, 3) := by decide +kernel
theorem dX7_numberAt_40 : decode cX7_numberAt 40 = .ok (.bipush 10, 2) := by decide +kernel
theorem dX7_numberAt_42 : decode cX7_numberAt 42 = .ok (.iload_n 3, 1) := by decide +kernel
theorem dX7_numberAt_43 : decode cX7_numberAt 43 = .ok (.imul, 1) := by decide +kernel
theorem dX7_numberAt_44 : decode cX7_numberAt 44 = .ok (.aload_n 0, 1) := by decide +kernel
theorem dX7_numberAt_45 : decode cX7_numberAt 45 = .ok (.iload 4, 2) := by decide +kernel
theorem dX7_numberAt_47 : decode cX7_numberAt 47 = .ok (.invokevirtual 189, 3) := by decide +kernel
theorem dX7_numberAt_50 : decode cX7_numberAt 50 = .ok (.iadd, 1) := by decide +kernel
theorem dX7_numberAt_51 : decode cX7_numberAt 51 = .ok (.istore_n 3, 1) := by decide +kernel
theorem dX7_numberAt_52 : decode cX7_numberAt 52 = .ok (.iinc 4 1, 3) := by decide +kernel
theorem dX7_numberAt_55 : decode cX7_numberAt 55 = .ok (.goto (-24), 3) := by decide +kernel
theorem dX7_numberAt_58 : decode cX7_numberAt 58 = .ok (.iload_n 2, 1) := by decide +kernel
theorem dX7_numberAt_59 : decode cX7_numberAt 59 = .ok (.ifCond .eq 8, 3) := by decide +kernel
theorem dX7_numberAt_62 : decode cX7_numberAt 62 = .ok (.iload_n 3, 1) := by decide +kernel
theorem dX7_numberAt_63 : decode cX7_numberAt 63 = .ok (.ineg, 1) := by decide +kernel
theorem dX7_numberAt_64 : decode cX7_numberAt 64 = .ok (.goto 4, 3) := by decide +kernel
theorem dX7_numberAt_67 : decode cX7_numberAt 67 = .ok (.iload_n 3, 1) := by decide +kernel
theorem dX7_numberAt_68 : decode cX7_numberAt 68 = .ok (.ireturn, 1) := by decide +kernel
theorem dX7_argument_0 : decode cX7_argument 0 = .ok (.iload_n 1, 1) := by decide +kernel
theorem dX7_argument_1 : decode cX7_argument 1 = .ok (.istore_n 2, 1) := by decide +kernel
theorem dX7_argument_2 : decode cX7_argument 2 = .ok (.iload_n 2, 1) := by decide +kernel
theorem dX7_argument_3 : decode cX7_argument 3 = .ok (.aload_n 0, 1) := by decide +kernel
theorem dX7_argument_4 : decode cX7_argument 4 = .ok (.getfield 183, 3) := by decide +kernel
theorem dX7_argument_7 : decode cX7_argument 7 = .ok (.if_icmp .ge 19, 3) := by decide +kernel
theorem dX7_argument_10 : decode cX7_argument 10 = .ok (.aload_n 0, 1) := by decide +kernel
theorem dX7_argument_11 : decode cX7_argument 11 = .ok (.iload_n 2, 1) := by decide +kernel
theorem dX7_argument_12 : decode cX7_argument 12 = .ok (.invokevirtual 186, 3) := by decide +kernel
theorem dX7_argument_15 : decode cX7_argument 15 = .ok (.bipush 44, 2) := by decide +kernel
theorem dX7_argument_17 : decode cX7_argument 17 = .ok (.if_icmp .eq 9, 3) := by decide +kernel
theorem dX7_argument_20 : decode cX7_argument 20 = .ok (.iinc 2 1, 3) := by decide +kernel
theorem dX7_argument_23 : decode cX7_argument 23 = .ok (.goto (-21), 3) := by decide +kernel
theorem dX7_argument_26 : decode cX7_argument 26 = .ok (.iload_n 2, 1) := by decide +kernel
theorem dX7_argument_27 : decode cX7_argument 27 = .ok (.iconst 1, 1) := by decide +kernel
theorem dX7_argument_28 : decode cX7_argument 28 = .ok (.iadd, 1) := by decide +kernel
theorem dX7_argument_29 : decode cX7_argument 29 = .ok (.ireturn, 1) := by decide +kernel
theorem dX7_executes_0 : decode cX7_executes 0 = .ok (.aload_n 0, 1) := by decide +kernel
theorem dX7_executes_1 : decode cX7_executes 1 = .ok (.iload_n 1, 1) := by decide +kernel
theorem dX7_executes_2 : decode cX7_executes 2 = .ok (.iconst 1, 1) := by decide +kernel
theorem dX7_executes_3 : decode cX7_executes 3 = .ok (.iadd, 1) := by decide +kernel
theorem dX7_executes_4 : decode cX7_executes 4 = .ok (.invokevirtual 210, 3) := by decide +kernel
theorem dX7_executes_7 : decode cX7_executes 7 = .ok (.istore_n 2, 1) := by decide +kernel
theorem dX7_executes_8 : decode cX7_executes 8 = .ok (.aload_n 0, 1) := by decide +kernel
theorem dX7_executes_9 : decode cX7_executes 9 = .ok (.aload_n 0, 1) := by decide +kernel
theorem dX7_executes_10 : decode cX7_executes 10 = .ok (.iload_n 1, 1) := by decide +kernel
theorem dX7_executes_11 : decode cX7_executes 11 = .ok (.invokevirtual 213, 3) := by decide +kernel
theorem dX7_executes_14 : decode cX7_executes 14 = .ok (.invokevirtual 210, 3) := by decide +kernel
theorem dX7_executes_17 : decode cX7_executes 17 = .ok (.istore_n 3, 1) := by decide +kernel
theorem dX7_executes_18 : decode cX7_executes 18 = .ok (.aload_n 0, 1) := by decide +kernel
theorem dX7_executes_19 : decode cX7_executes 19 = .ok (.aload_n 0, 1) := by decide +kernel
theorem dX7_executes_20 : decode cX7_executes 20 = .ok (.aload_n 0, 1) := by decide +kernel
theorem dX7_executes_21 : decode cX7_executes 21 = .ok (.iload_n 1, 1) := by decide +kernel
theorem dX7_executes_22 : decode cX7_executes 22 = .ok (.invokevirtual 213, 3) := by decide +kernel
theorem dX7_executes_25 : decode cX7_executes 25 = .ok (.invokevirtual 213, 3) := by decide +kernel
theorem dX7_executes_28 : decode cX7_executes 28 = .ok (.invokevirtual 210, 3) := by decide +kernel
theorem dX7_executes_31 : decode cX7_executes 31 = .ok (.istore 4, 2) := by decide +kernel
theorem dX7_executes_33 : decode cX7_executes 33 = .ok (.iconst 0, 1) := by decide +kernel
theorem dX7_executes_34 : decode cX7_executes 34 = .ok (.istore 5, 2) := by decide +kernel
theorem dX7_executes_36 : decode cX7_executes 36 = .ok (.iconst 0, 1) := by decide +kernel
theorem dX7_executes_37 : decode cX7_executes 37 = .ok (.istore 6, 2) := by decide +kernel
theorem dX7_executes_39 : decode cX7_executes 39 = .ok (.aload_n 0, 1) := by decide +kernel
theorem dX7_executes_40 : decode cX7_executes 40 = .ok (.iload_n 1, 1) := by decide +kernel
theorem dX7_executes_41 : decode cX7_executes 41 = .ok (.invokevirtual 186, 3) := by decide +kernel
theorem dX7_executes_44 : decode cX7_executes 44 = .ok (.lookupswitch 192 #[(98, 52), (114, 78), (115, 164), (116, 138), (119, 106)], 52) := by decide +kernel
theorem dX7_executes_96 : decode cX7_executes 96 = .ok (.aload_n 0, 1) := by decide +kernel
theorem dX7_executes_97 : decode cX7_executes 97 = .ok (.iload_n 2, 1) := by decide +kernel
theorem dX7_executes_98 : decode cX7_executes 98 = .ok (.invokevirtual 133, 3) := by decide +kernel
theorem dX7_executes_101 : decode cX7_executes 101 = .ok (.istore 6, 2) := by decide +kernel
theorem dX7_executes_103 : decode cX7_executes 103 = .ok (.iload 6, 2) := by decide +kernel
theorem dX7_executes_105 : decode cX7_executes 105 = .ok (.ifCond .ne 11, 3) := by decide +kernel
theorem dX7_executes_108 : decode cX7_executes 108 = .ok (.aload_n 0, 1) := by decide +kernel
theorem dX7_executes_109 : decode cX7_executes 109 = .ok (.iload_n 2, 1) := by decide +kernel
theorem dX7_executes_110 : decode cX7_executes 110 = .ok (.invokevirtual 142, 3) := by decide +kernel
theorem dX7_executes_113 : decode cX7_executes 113 = .ok (.goto 4, 3) := by decide +kernel
theorem dX7_executes_116 : decode cX7_executes 116 = .ok (.iconst 0, 1) := by decide +kernel
theorem dX7_executes_117 : decode cX7_executes 117 = .ok (.istore 5, 2) := by decide +kernel
theorem dX7_executes_119 : decode cX7_executes 119 = .ok (.goto 154, 3) := by decide +kernel
theorem dX7_executes_122 : decode cX7_executes 122 = .ok (.aload_n 0, 1) := by decide +kernel
theorem dX7_executes_123 : decode cX7_executes 123 = .ok (.iload_n 2, 1) := by decide +kernel
theorem dX7_executes_124 : decode cX7_executes 124 = .ok (.iload_n 3, 1) := by decide +kernel
theorem dX7_executes_125 : decode cX7_executes 125 = .ok (.invokevirtual 145, 3) := by decide +kernel
theorem dX7_executes_128 : decode cX7_executes 128 = .ok (.istore 6, 2) := by decide +kernel
theorem dX7_executes_130 : decode cX7_executes 130 = .ok (.iload 6, 2) := by decide +kernel
theorem dX7_executes_132 : decode cX7_executes 132 = .ok (.ifCond .ne 12, 3) := by decide +kernel
theorem dX7_executes_135 : decode cX7_executes 135 = .ok (.aload_n 0, 1) := by decide +kernel
theorem dX7_executes_136 : decode cX7_executes 136 = .ok (.iload_n 2, 1) := by decide +kernel
theorem dX7_executes_137 : decode cX7_executes 137 = .ok (.iload_n 3, 1) := by decide +kernel
theorem dX7_executes_138 : decode cX7_executes 138 = .ok (.invokevirtual 148, 3) := by decide +kernel
theorem dX7_executes_141 : decode cX7_executes 141 = .ok (.goto 4, 3) := by decide +kernel
theorem dX7_executes_144 : decode cX7_executes 144 = .ok (.iconst 0, 1) := by decide +kernel
theorem dX7_executes_145 : decode cX7_executes 145 = .ok (.istore 5, 2) := by decide +kernel
theorem dX7_executes_147 : decode cX7_executes 147 = .ok (.goto 126, 3) := by decide +kernel
theorem dX7_executes_150 : decode cX7_executes 150 = .ok (.aload_n 0, 1) := by decide +kernel
theorem dX7_executes_151 : decode cX7_executes 151 = .ok (.iload_n 2, 1) := by decide +kernel
theorem dX7_executes_152 : decode cX7_executes 152 = .ok (.iload_n 3, 1) := by decide +kernel
theorem dX7_executes_153 : decode cX7_executes 153 = .ok (.iload 4, 2) := by decide +kernel
theorem dX7_executes_155 : decode cX7_executes 155 = .ok (.invokevirtual 151, 3) := by decide +kernel
theorem dX7_executes_158 : decode cX7_executes 158 = .ok (.istore 6, 2) := by decide +kernel
theorem dX7_executes_160 : decode cX7_executes 160 = .ok (.iload 6, 2) := by decide +kernel
theorem dX7_executes_162 : decode cX7_executes 162 = .ok (.ifCond .ne 14, 3) := by decide +kernel
theorem dX7_executes_165 : decode cX7_executes 165 = .ok (.aload_n 0, 1) := by decide +kernel
theorem dX7_executes_166 : decode cX7_executes 166 = .ok (.iload_n 2, 1) := by decide +kernel
theorem dX7_executes_167 : decode cX7_executes 167 = .ok (.iload_n 3, 1) := by decide +kernel
theorem dX7_executes_168 : decode cX7_executes 168 = .ok (.iload 4, 2) := by decide +kernel
theorem dX7_executes_170 : decode cX7_executes 170 = .ok (.invokevirtual 155, 3) := by decide +kernel
theorem dX7_executes_173 : decode cX7_executes 173 = .ok (.goto 4, 3) := by decide +kernel
theorem dX7_executes_176 : decode cX7_executes 176 = .ok (.iconst 0, 1) := by decide +kernel
theorem dX7_executes_177 : decode cX7_executes 177 = .ok (.istore 5, 2) := by decide +kernel
theorem dX7_executes_179 : decode cX7_executes 179 = .ok (.goto 94, 3) := by decide +kernel
theorem dX7_executes_182 : decode cX7_executes 182 = .ok (.aload_n 0, 1) := by decide +kernel
theorem dX7_executes_183 : decode cX7_executes 183 = .ok (.iload_n 2, 1) := by decide +kernel
theorem dX7_executes_184 : decode cX7_executes 184 = .ok (.invokevirtual 164, 3) := by decide +kernel
theorem dX7_executes_187 : decode cX7_executes 187 = .ok (.istore 6, 2) := by decide +kernel
theorem dX7_executes_189 : decode cX7_executes 189 = .ok (.iload 6, 2) := by decide +kernel
theorem dX7_executes_191 : decode cX7_executes 191 = .ok (.ifCond .ne 11, 3) := by decide +kernel
theorem dX7_executes_194 : decode cX7_executes 194 = .ok (.aload_n 0, 1) := by decide +kernel
theorem dX7_executes_195 : decode cX7_executes 195 = .ok (.iload_n 2, 1) := by decide +kernel
theorem dX7_executes_196 : decode cX7_executes 196 = .ok (.invokevirtual 167, 3) := by decide +kernel
theorem dX7_executes_199 : decode cX7_executes 199 = .ok (.goto 4, 3) := by decide +kernel
theorem dX7_executes_202 : decode cX7_executes 202 = .ok (.iconst 0, 1) := by decide +kernel
theorem dX7_executes_203 : decode cX7_executes 203 = .ok (.istore 5, 2) := by decide +kernel
theorem dX7_executes_205 : decode cX7_executes 205 = .ok (.goto 68, 3) := by decide +kernel
theorem dX7_executes_208 : decode cX7_executes 208 = .ok (.aload_n 0, 1) := by decide +kernel
theorem dX7_executes_209 : decode cX7_executes 209 = .ok (.iload_n 2, 1) := by decide +kernel
theorem dX7_executes_210 : decode cX7_executes 210 = .ok (.iload_n 3, 1) := by decide +kernel
theorem dX7_executes_211 : decode cX7_executes 211 = .ok (.invokevirtual 170, 3) := by decide +kernel
theorem dX7_executes_214 : decode cX7_executes 214 = .ok (.istore 6, 2) := by decide +kernel
theorem dX7_executes_216 : decode cX7_executes 216 = .ok (.iload 6, 2) := by decide +kernel
theorem dX7_executes_218 : decode cX7_executes 218 = .ok (.ifCond .ne 12, 3) := by decide +kernel
theorem dX7_executes_221 : decode cX7_executes 221 = .ok (.aload_n 0, 1) := by decide +kernel
theorem dX7_executes_222 : decode cX7_executes 222 = .ok (.iload_n 2, 1) := by decide +kernel
theorem dX7_executes_223 : decode cX7_executes 223 = .ok (.iload_n 3, 1) := by decide +kernel
theorem dX7_executes_224 : decode cX7_executes 224 = .ok (.invokevirtual 173, 3) := by decide +kernel
theorem dX7_executes_227 : decode cX7_executes 227 = .ok (.goto 4, 3) := by decide +kernel
theorem dX7_executes_230 : decode cX7_executes 230 = .ok (.iconst 0, 1) := by decide +kernel
theorem dX7_executes_231 : decode cX7_executes 231 = .ok (.istore 5, 2) := by decide +kernel
theorem dX7_executes_233 : decode cX7_executes 233 = .ok (.goto 40, 3) := by decide +kernel
theorem dX7_executes_236 : decode cX7_executes 236 = .ok (.aload_n 0, 1) := by decide +kernel
theorem dX7_executes_237 : decode cX7_executes 237 = .ok (.iload_n 2, 1) := by decide +kernel
theorem dX7_executes_238 : decode cX7_executes 238 = .ok (.invokevirtual 111, 3) := by decide +kernel
theorem dX7_executes_241 : decode cX7_executes 241 = .ok (.istore 6, 2) := by decide +kernel
theorem dX7_executes_243 : decode cX7_executes 243 = .ok (.aload_n 0, 1) := by decide +kernel
theorem dX7_executes_244 : decode cX7_executes 244 = .ok (.iload_n 2, 1) := by decide +kernel
theorem dX7_executes_245 : decode cX7_executes 245 = .ok (.iload 6, 2) := by decide +kernel
theorem dX7_executes_247 : decode cX7_executes 247 = .ok (.ifCond .ne 7, 3) := by decide +kernel
theorem dX7_executes_250 : decode cX7_executes 250 = .ok (.iconst 1, 1) := by decide +kernel
theorem dX7_executes_251 : decode cX7_executes 251 = .ok (.goto 4, 3) := by decide +kernel
theorem dX7_executes_254 : decode cX7_executes 254 = .ok (.iconst 0, 1) := by decide +kernel
theorem dX7_executes_255 : decode cX7_executes 255 = .ok (.aload_n 0, 1) := by decide +kernel
theorem dX7_executes_256 : decode cX7_executes 256 = .ok (.iload_n 1, 1) := by decide +kernel
theorem dX7_executes_257 : decode cX7_executes 257 = .ok (.invokevirtual 186, 3) := by decide +kernel
theorem dX7_executes_260 : decode cX7_executes 260 = .ok (.bipush 99, 2) := by decide +kernel
theorem dX7_executes_262 : decode cX7_executes 262 = .ok (.if_icmp .ne 7, 3) := by decide +kernel
theorem dX7_executes_265 : decode cX7_executes 265 = .ok (.iconst 1, 1) := by decide +kernel
theorem dX7_executes_266 : decode cX7_executes 266 = .ok (.goto 4, 3) := by decide +kernel
theorem dX7_executes_269 : decode cX7_executes 269 = .ok (.iconst 0, 1) := by decide +kernel
theorem dX7_executes_270 : decode cX7_executes 270 = .ok (.invokevirtual 216, 3) := by decide +kernel
theorem dX7_executes_273 : decode cX7_executes 273 = .ok (.iload 6, 2) := by decide +kernel
theorem dX7_executes_275 : decode cX7_executes 275 = .ok (.ifCond .ne 7, 3) := by decide +kernel
theorem dX7_executes_278 : decode cX7_executes 278 = .ok (.iconst 1, 1) := by decide +kernel
theorem dX7_executes_279 : decode cX7_executes 279 = .ok (.goto 4, 3) := by decide +kernel
theorem dX7_executes_282 : decode cX7_executes 282 = .ok (.iconst 0, 1) := by decide +kernel
theorem dX7_executes_283 : decode cX7_executes 283 = .ok (.ireturn, 1) := by decide +kernel
theorem dX7_ends_0 : decode cX7_ends 0 = .ok (.iload_n 2, 1) := by decide +kernel
theorem dX7_ends_1 : decode cX7_ends 1 = .ok (.ifCond .ne 4, 3) := by decide +kernel
theorem dX7_ends_4 : decode cX7_ends 4 = .ok (.return_, 1) := by decide +kernel
theorem dX7_ends_5 : decode cX7_ends 5 = .ok (.iload_n 3, 1) := by decide +kernel
theorem dX7_ends_6 : decode cX7_ends 6 = .ok (.ifCond .ne 15, 3) := by decide +kernel
theorem dX7_ends_9 : decode cX7_ends 9 = .ok (.aload_n 0, 1) := by decide +kernel
theorem dX7_ends_10 : decode cX7_ends 10 = .ok (.bipush 21, 2) := by decide +kernel
theorem dX7_ends_12 : decode cX7_ends 12 = .ok (.iload_n 1, 1) := by decide +kernel
theorem dX7_ends_13 : decode cX7_ends 13 = .ok (.imul, 1) := by decide +kernel
theorem dX7_ends_14 : decode cX7_ends 14 = .ok (.iconst 1, 1) := by decide +kernel
theorem dX7_ends_15 : decode cX7_ends 15 = .ok (.iadd, 1) := by decide +kernel
theorem dX7_ends_16 : decode cX7_ends 16 = .ok (.iconst 3, 1) := by decide +kernel
theorem dX7_ends_17 : decode cX7_ends 17 = .ok (.invokevirtual 115, 3) := by decide +kernel
theorem dX7_ends_20 : decode cX7_ends 20 = .ok (.return_, 1) := by decide +kernel
theorem dX7_ends_21 : decode cX7_ends 21 = .ok (.aload_n 0, 1) := by decide +kernel
theorem dX7_ends_22 : decode cX7_ends 22 = .ok (.iload_n 1, 1) := by decide +kernel
theorem dX7_ends_23 : decode cX7_ends 23 = .ok (.invokevirtual 158, 3) := by decide +kernel
theorem dX7_ends_26 : decode cX7_ends 26 = .ok (.istore 4, 2) := by decide +kernel
theorem dX7_ends_28 : decode cX7_ends 28 = .ok (.iload 4, 2) := by decide +kernel
theorem dX7_ends_30 : decode cX7_ends 30 = .ok (.bipush (-3), 2) := by decide +kernel
theorem dX7_ends_32 : decode cX7_ends 32 = .ok (.if_icmp .eq 10, 3) := by decide +kernel
theorem dX7_ends_35 : decode cX7_ends 35 = .ok (.aload_n 0, 1) := by decide +kernel
theorem dX7_ends_36 : decode cX7_ends 36 = .ok (.iload_n 1, 1) := by decide +kernel
theorem dX7_ends_37 : decode cX7_ends 37 = .ok (.iload 4, 2) := by decide +kernel
theorem dX7_ends_39 : decode cX7_ends 39 = .ok (.invokevirtual 161, 3) := by decide +kernel
theorem dX7_ends_42 : decode cX7_ends 42 = .ok (.return_, 1) := by decide +kernel
theorem dX7_runText_0 : decode cX7_runText 0 = .ok (.aload_n 0, 1) := by decide +kernel
theorem dX7_runText_1 : decode cX7_runText 1 = .ok (.aload_n 0, 1) := by decide +kernel
theorem dX7_runText_2 : decode cX7_runText 2 = .ok (.invokevirtual 207, 3) := by decide +kernel
theorem dX7_runText_5 : decode cX7_runText 5 = .ok (.iconst (-1), 1) := by decide +kernel
theorem dX7_runText_6 : decode cX7_runText 6 = .ok (.if_icmp .ne 7, 3) := by decide +kernel
theorem dX7_runText_9 : decode cX7_runText 9 = .ok (.iconst 0, 1) := by decide +kernel
theorem dX7_runText_10 : decode cX7_runText 10 = .ok (.goto 4, 3) := by decide +kernel
theorem dX7_runText_13 : decode cX7_runText 13 = .ok (.iconst 1, 1) := by decide +kernel
theorem dX7_runText_14 : decode cX7_runText 14 = .ok (.invokevirtual 136, 3) := by decide +kernel
theorem dX7_runText_17 : decode cX7_runText 17 = .ok (.ifCond .eq 5, 3) := by decide +kernel
theorem dX7_runText_20 : decode cX7_runText 20 = .ok (.iconst 0, 1) := by decide +kernel
theorem dX7_runText_21 : decode cX7_runText 21 = .ok (.ireturn, 1) := by decide +kernel
theorem dX7_runText_22 : decode cX7_runText 22 = .ok (.aload_n 0, 1) := by decide +kernel
theorem dX7_runText_23 : decode cX7_runText 23 = .ok (.invokevirtual 139, 3) := by decide +kernel
theorem dX7_runText_26 : decode cX7_runText 26 = .ok (.iconst 0, 1) := by decide +kernel
theorem dX7_runText_27 : decode cX7_runText 27 = .ok (.istore_n 1, 1) := by decide +kernel
theorem dX7_runText_28 : decode cX7_runText 28 = .ok (.iconst 0, 1) := by decide +kernel
theorem dX7_runText_29 : decode cX7_runText 29 = .ok (.istore_n 2, 1) := by decide +kernel
theorem dX7_runText_30 : decode cX7_runText 30 = .ok (.iload_n 2, 1) := by decide +kernel
theorem dX7_runText_31 : decode cX7_runText 31 = .ok (.aload_n 0, 1) := by decide +kernel
theorem dX7_runText_32 : decode cX7_runText 32 = .ok (.getfield 183, 3) := by decide +kernel
theorem dX7_runText_35 : decode cX7_runText 35 = .ok (.if_icmp .ge 25, 3) := by decide +kernel
theorem dX7_runText_38 : decode cX7_runText 38 = .ok (.aload_n 0, 1) := by decide +kernel
theorem dX7_runText_39 : decode cX7_runText 39 = .ok (.iload_n 2, 1) := by decide +kernel
theorem dX7_runText_40 : decode cX7_runText 40 = .ok (.invokevirtual 220, 3) := by decide +kernel
theorem dX7_runText_43 : decode cX7_runText 43 = .ok (.ifCond .eq 17, 3) := by decide +kernel
theorem dX7_runText_46 : decode cX7_runText 46 = .ok (.iinc 1 1, 3) := by decide +kernel
theorem dX7_runText_49 : decode cX7_runText 49 = .ok (.aload_n 0, 1) := by decide +kernel
theorem dX7_runText_50 : decode cX7_runText 50 = .ok (.iload_n 2, 1) := by decide +kernel
theorem dX7_runText_51 : decode cX7_runText 51 = .ok (.invokevirtual 204, 3) := by decide +kernel
theorem dX7_runText_54 : decode cX7_runText 54 = .ok (.iconst 1, 1) := by decide +kernel
theorem dX7_runText_55 : decode cX7_runText 55 = .ok (.iadd, 1) := by decide +kernel
theorem dX7_runText_56 : decode cX7_runText 56 = .ok (.istore_n 2, 1) := by decide +kernel
theorem dX7_runText_57 : decode cX7_runText 57 = .ok (.goto (-27), 3) := by decide +kernel
theorem dX7_runText_60 : decode cX7_runText 60 = .ok (.iload_n 1, 1) := by decide +kernel
theorem dX7_runText_61 : decode cX7_runText 61 = .ok (.ireturn, 1) := by decide +kernel
theorem dX7_undo_0 : decode cX7_undo 0 = .ok (.aload_n 0, 1) := by decide +kernel
theorem dX7_undo_1 : decode cX7_undo 1 = .ok (.aload_n 0, 1) := by decide +kernel
theorem dX7_undo_2 : decode cX7_undo 2 = .ok (.getfield 34, 3) := by decide +kernel
theorem dX7_undo_5 : decode cX7_undo 5 = .ok (.ifCond .ne 7, 3) := by decide +kernel
theorem dX7_undo_8 : decode cX7_undo 8 = .ok (.iconst 1, 1) := by decide +kernel
theorem dX7_undo_9 : decode cX7_undo 9 = .ok (.goto 4, 3) := by decide +kernel
theorem dX7_undo_12 : decode cX7_undo 12 = .ok (.iconst 0, 1) := by decide +kernel
theorem dX7_undo_13 : decode cX7_undo 13 = .ok (.invokevirtual 136, 3) := by decide +kernel
theorem dX7_undo_16 : decode cX7_undo 16 = .ok (.ifCond .eq 5, 3) := by decide +kernel
theorem dX7_undo_19 : decode cX7_undo 19 = .ok (.iconst 0, 1) := by decide +kernel
theorem dX7_undo_20 : decode cX7_undo 20 = .ok (.ireturn, 1) := by decide +kernel
theorem dX7_undo_21 : decode cX7_undo 21 = .ok (.aload_n 0, 1) := by decide +kernel
theorem dX7_undo_22 : decode cX7_undo 22 = .ok (.dup, 1) := by decide +kernel
theorem dX7_undo_23 : decode cX7_undo 23 = .ok (.getfield 34, 3) := by decide +kernel
theorem dX7_undo_26 : decode cX7_undo 26 = .ok (.iconst 1, 1) := by decide +kernel
theorem dX7_undo_27 : decode cX7_undo 27 = .ok (.isub, 1) := by decide +kernel
theorem dX7_undo_28 : decode cX7_undo 28 = .ok (.putfield 34, 3) := by decide +kernel
theorem dX7_undo_31 : decode cX7_undo 31 = .ok (.iconst 0, 1) := by decide +kernel
theorem dX7_undo_32 : decode cX7_undo 32 = .ok (.istore_n 1, 1) := by decide +kernel
theorem dX7_undo_33 : decode cX7_undo 33 = .ok (.iload_n 1, 1) := by decide +kernel
theorem dX7_undo_34 : decode cX7_undo 34 = .ok (.sipush 865, 3) := by decide +kernel
theorem dX7_undo_37 : decode cX7_undo 37 = .ok (.if_icmp .ge 30, 3) := by decide +kernel
theorem dX7_undo_40 : decode cX7_undo 40 = .ok (.aload_n 0, 1) := by decide +kernel
theorem dX7_undo_41 : decode cX7_undo 41 = .ok (.getfield 7, 3) := by decide +kernel
theorem dX7_undo_44 : decode cX7_undo 44 = .ok (.iload_n 1, 1) := by decide +kernel
theorem dX7_undo_45 : decode cX7_undo 45 = .ok (.aload_n 0, 1) := by decide +kernel
theorem dX7_undo_46 : decode cX7_undo 46 = .ok (.getfield 13, 3) := by decide +kernel
theorem dX7_undo_49 : decode cX7_undo 49 = .ok (.sipush 865, 3) := by decide +kernel
theorem dX7_undo_52 : decode cX7_undo 52 = .ok (.aload_n 0, 1) := by decide +kernel
theorem dX7_undo_53 : decode cX7_undo 53 = .ok (.getfield 34, 3) := by decide +kernel
theorem dX7_undo_56 : decode cX7_undo 56 = .ok (.imul, 1) := by decide +kernel
theorem dX7_undo_57 : decode cX7_undo 57 = .ok (.iload_n 1, 1) := by decide +kernel
theorem dX7_undo_58 : decode cX7_undo 58 = .ok (.iadd, 1) := by decide +kernel
theorem dX7_undo_59 : decode cX7_undo 59 = .ok (.iaload, 1) := by decide +kernel
theorem dX7_undo_60 : decode cX7_undo 60 = .ok (.iastore, 1) := by decide +kernel
theorem dX7_undo_61 : decode cX7_undo 61 = .ok (.iinc 1 1, 3) := by decide +kernel
theorem dX7_undo_64 : decode cX7_undo 64 = .ok (.goto (-31), 3) := by decide +kernel
theorem dX7_undo_67 : decode cX7_undo 67 = .ok (.aload_n 0, 1) := by decide +kernel
theorem dX7_undo_68 : decode cX7_undo 68 = .ok (.getfield 34, 3) := by decide +kernel
theorem dX7_undo_71 : decode cX7_undo 71 = .ok (.ireturn, 1) := by decide +kernel
theorem dX7_save_0 : decode cX7_save 0 = .ok (.aload_n 0, 1) := by decide +kernel
theorem dX7_save_1 : decode cX7_save 1 = .ok (.iload_n 1, 1) := by decide +kernel
theorem dX7_save_2 : decode cX7_save 2 = .ok (.iconst 0, 1) := by decide +kernel
theorem dX7_save_3 : decode cX7_save 3 = .ok (.iconst 1, 1) := by decide +kernel
theorem dX7_save_4 : decode cX7_save 4 = .ok (.invokestatic 30, 3) := by decide +kernel
theorem dX7_save_7 : decode cX7_save 7 = .ok (.ifCond .eq 7, 3) := by decide +kernel
theorem dX7_save_10 : decode cX7_save 10 = .ok (.iconst 0, 1) := by decide +kernel
theorem dX7_save_11 : decode cX7_save 11 = .ok (.goto 4, 3) := by decide +kernel
theorem dX7_save_14 : decode cX7_save 14 = .ok (.iconst 1, 1) := by decide +kernel
theorem dX7_save_15 : decode cX7_save 15 = .ok (.invokevirtual 136, 3) := by decide +kernel
theorem dX7_save_18 : decode cX7_save 18 = .ok (.ifCond .eq 5, 3) := by decide +kernel
theorem dX7_save_21 : decode cX7_save 21 = .ok (.iconst 0, 1) := by decide +kernel
theorem dX7_save_22 : decode cX7_save 22 = .ok (.ireturn, 1) := by decide +kernel
theorem dX7_save_23 : decode cX7_save 23 = .ok (.iconst 0, 1) := by decide +kernel
theorem dX7_save_24 : decode cX7_save 24 = .ok (.istore_n 2, 1) := by decide +kernel
theorem dX7_save_25 : decode cX7_save 25 = .ok (.iload_n 2, 1) := by decide +kernel
theorem dX7_save_26 : decode cX7_save 26 = .ok (.sipush 865, 3) := by decide +kernel
theorem dX7_save_29 : decode cX7_save 29 = .ok (.if_icmp .ge 27, 3) := by decide +kernel
theorem dX7_save_32 : decode cX7_save 32 = .ok (.aload_n 0, 1) := by decide +kernel
theorem dX7_save_33 : decode cX7_save 33 = .ok (.getfield 16, 3) := by decide +kernel
theorem dX7_save_36 : decode cX7_save 36 = .ok (.sipush 865, 3) := by decide +kernel
theorem dX7_save_39 : decode cX7_save 39 = .ok (.iload_n 1, 1) := by decide +kernel
theorem dX7_save_40 : decode cX7_save 40 = .ok (.imul, 1) := by decide +kernel
theorem dX7_save_41 : decode cX7_save 41 = .ok (.iload_n 2, 1) := by decide +kernel
theorem dX7_save_42 : decode cX7_save 42 = .ok (.iadd, 1) := by decide +kernel
theorem dX7_save_43 : decode cX7_save 43 = .ok (.aload_n 0, 1) := by decide +kernel
theorem dX7_save_44 : decode cX7_save 44 = .ok (.getfield 7, 3) := by decide +kernel
theorem dX7_save_47 : decode cX7_save 47 = .ok (.iload_n 2, 1) := by decide +kernel
theorem dX7_save_48 : decode cX7_save 48 = .ok (.iaload, 1) := by decide +kernel
theorem dX7_save_49 : decode cX7_save 49 = .ok (.iastore, 1) := by decide +kernel
theorem dX7_save_50 : decode cX7_save 50 = .ok (.iinc 2 1, 3) := by decide +kernel
theorem dX7_save_53 : decode cX7_save 53 = .ok (.goto (-28), 3) := by decide +kernel
theorem dX7_save_56 : decode cX7_save 56 = .ok (.aload_n 0, 1) := by decide +kernel
theorem dX7_save_57 : decode cX7_save 57 = .ok (.getfield 19, 3) := by decide +kernel
theorem dX7_save_60 : decode cX7_save 60 = .ok (.iload_n 1, 1) := by decide +kernel
theorem dX7_save_61 : decode cX7_save 61 = .ok (.iconst 1, 1) := by decide +kernel
theorem dX7_save_62 : decode cX7_save 62 = .ok (.bastore, 1) := by decide +kernel
theorem dX7_save_63 : decode cX7_save 63 = .ok (.aload_n 0, 1) := by decide +kernel
theorem dX7_save_64 : decode cX7_save 64 = .ok (.getfield 7, 3) := by decide +kernel
theorem dX7_save_67 : decode cX7_save 67 = .ok (.iconst 0, 1) := by decide +kernel
theorem dX7_save_68 : decode cX7_save 68 = .ok (.iaload, 1) := by decide +kernel
theorem dX7_save_69 : decode cX7_save 69 = .ok (.ireturn, 1) := by decide +kernel
theorem dX7_restore_0 : decode cX7_restore 0 = .ok (.aload_n 0, 1) := by decide +kernel
theorem dX7_restore_1 : decode cX7_restore 1 = .ok (.iload_n 1, 1) := by decide +kernel
theorem dX7_restore_2 : decode cX7_restore 2 = .ok (.iconst 0, 1) := by decide +kernel
theorem dX7_restore_3 : decode cX7_restore 3 = .ok (.iconst 1, 1) := by decide +kernel
theorem dX7_restore_4 : decode cX7_restore 4 = .ok (.invokestatic 30, 3) := by decide +kernel
theorem dX7_restore_7 : decode cX7_restore 7 = .ok (.ifCond .ne 7, 3) := by decide +kernel
theorem dX7_restore_10 : decode cX7_restore 10 = .ok (.iconst 1, 1) := by decide +kernel
theorem dX7_restore_11 : decode cX7_restore 11 = .ok (.goto 17, 3) := by decide +kernel
theorem dX7_restore_14 : decode cX7_restore 14 = .ok (.aload_n 0, 1) := by decide +kernel
theorem dX7_restore_15 : decode cX7_restore 15 = .ok (.getfield 19, 3) := by decide +kernel
theorem dX7_restore_18 : decode cX7_restore 18 = .ok (.iload_n 1, 1) := by decide +kernel
theorem dX7_restore_19 : decode cX7_restore 19 = .ok (.baload, 1) := by decide +kernel
theorem dX7_restore_20 : decode cX7_restore 20 = .ok (.ifCond .eq 7, 3) := by decide +kernel
theorem dX7_restore_23 : decode cX7_restore 23 = .ok (.iconst 0, 1) := by decide +kernel
theorem dX7_restore_24 : decode cX7_restore 24 = .ok (.goto 4, 3) := by decide +kernel
theorem dX7_restore_27 : decode cX7_restore 27 = .ok (.iconst 2, 1) := by decide +kernel
theorem dX7_restore_28 : decode cX7_restore 28 = .ok (.invokevirtual 136, 3) := by decide +kernel
theorem dX7_restore_31 : decode cX7_restore 31 = .ok (.ifCond .eq 5, 3) := by decide +kernel
theorem dX7_restore_34 : decode cX7_restore 34 = .ok (.iconst 0, 1) := by decide +kernel
theorem dX7_restore_35 : decode cX7_restore 35 = .ok (.ireturn, 1) := by decide +kernel
theorem dX7_restore_36 : decode cX7_restore 36 = .ok (.aload_n 0, 1) := by decide +kernel
theorem dX7_restore_37 : decode cX7_restore 37 = .ok (.invokevirtual 139, 3) := by decide +kernel
theorem dX7_restore_40 : decode cX7_restore 40 = .ok (.iconst 0, 1) := by decide +kernel
theorem dX7_restore_41 : decode cX7_restore 41 = .ok (.istore_n 2, 1) := by decide +kernel
theorem dX7_restore_42 : decode cX7_restore 42 = .ok (.iload_n 2, 1) := by decide +kernel
theorem dX7_restore_43 : decode cX7_restore 43 = .ok (.sipush 865, 3) := by decide +kernel
theorem dX7_restore_46 : decode cX7_restore 46 = .ok (.if_icmp .ge 27, 3) := by decide +kernel
theorem dX7_restore_49 : decode cX7_restore 49 = .ok (.aload_n 0, 1) := by decide +kernel
theorem dX7_restore_50 : decode cX7_restore 50 = .ok (.getfield 7, 3) := by decide +kernel
theorem dX7_restore_53 : decode cX7_restore 53 = .ok (.iload_n 2, 1) := by decide +kernel
theorem dX7_restore_54 : decode cX7_restore 54 = .ok (.aload_n 0, 1) := by decide +kernel
theorem dX7_restore_55 : decode cX7_restore 55 = .ok (.getfield 16, 3) := by decide +kernel
theorem dX7_restore_58 : decode cX7_restore 58 = .ok (.sipush 865, 3) := by decide +kernel
theorem dX7_restore_61 : decode cX7_restore 61 = .ok (.iload_n 1, 1) := by decide +kernel
theorem dX7_restore_62 : decode cX7_restore 62 = .ok (.imul, 1) := by decide +kernel
theorem dX7_restore_63 : decode cX7_restore 63 = .ok (.iload_n 2, 1) := by decide +kernel
theorem dX7_restore_64 : decode cX7_restore 64 = .ok (.iadd, 1) := by decide +kernel
theorem dX7_restore_65 : decode cX7_restore 65 = .ok (.iaload, 1) := by decide +kernel
theorem dX7_restore_66 : decode cX7_restore 66 = .ok (.iastore, 1) := by decide +kernel
theorem dX7_restore_67 : decode cX7_restore 67 = .ok (.iinc 2 1, 3) := by decide +kernel
theorem dX7_restore_70 : decode cX7_restore 70 = .ok (.goto (-28), 3) := by decide +kernel
theorem dX7_restore_73 : decode cX7_restore 73 = .ok (.aload_n 0, 1) := by decide +kernel
theorem dX7_restore_74 : decode cX7_restore 74 = .ok (.getfield 7, 3) := by decide +kernel
theorem dX7_restore_77 : decode cX7_restore 77 = .ok (.iconst 0, 1) := by decide +kernel
theorem dX7_restore_78 : decode cX7_restore 78 = .ok (.iaload, 1) := by decide +kernel
theorem dX7_restore_79 : decode cX7_restore 79 = .ok (.ireturn, 1) := by decide +kernel
theorem dX7_trueTime_0 : decode cX7_trueTime 0 = .ok (.aload_n 0, 1) := by decide +kernel
theorem dX7_trueTime_1 : decode cX7_trueTime 1 = .ok (.iconst 0, 1) := by decide +kernel
theorem dX7_trueTime_2 : decode cX7_trueTime 2 = .ok (.putfield 26, 3) := by decide +kernel
theorem dX7_trueTime_5 : decode cX7_trueTime 5 = .ok (.aload_n 0, 1) := by decide +kernel
theorem dX7_trueTime_6 : decode cX7_trueTime 6 = .ok (.getfield 7, 3) := by decide +kernel
theorem dX7_trueTime_9 : decode cX7_trueTime 9 = .ok (.iconst 0, 1) := by decide +kernel
theorem dX7_trueTime_10 : decode cX7_trueTime 10 = .ok (.iaload, 1) := by decide +kernel
theorem dX7_trueTime_11 : decode cX7_trueTime 11 = .ok (.ireturn, 1) := by decide +kernel
theorem dX7_reading_0 : decode cX7_reading 0 = .ok (.aload_n 0, 1) := by decide +kernel
theorem dX7_reading_1 : decode cX7_reading 1 = .ok (.iload_n 1, 1) := by decide +kernel
theorem dX7_reading_2 : decode cX7_reading 2 = .ok (.invokestatic 102, 3) := by decide +kernel
theorem dX7_reading_5 : decode cX7_reading 5 = .ok (.ifCond .eq 7, 3) := by decide +kernel
theorem dX7_reading_8 : decode cX7_reading 8 = .ok (.iconst 0, 1) := by decide +kernel
theorem dX7_reading_9 : decode cX7_reading 9 = .ok (.goto 4, 3) := by decide +kernel
theorem dX7_reading_12 : decode cX7_reading 12 = .ok (.iconst 1, 1) := by decide +kernel
theorem dX7_reading_13 : decode cX7_reading 13 = .ok (.invokevirtual 136, 3) := by decide +kernel
theorem dX7_reading_16 : decode cX7_reading 16 = .ok (.ifCond .eq 7, 3) := by decide +kernel
theorem dX7_reading_19 : decode cX7_reading 19 = .ok (.iconst 0, 1) := by decide +kernel
theorem dX7_reading_20 : decode cX7_reading 20 = .ok (.goto 21, 3) := by decide +kernel
theorem dX7_reading_23 : decode cX7_reading 23 = .ok (.aload_n 0, 1) := by decide +kernel
theorem dX7_reading_24 : decode cX7_reading 24 = .ok (.getfield 7, 3) := by decide +kernel
theorem dX7_reading_27 : decode cX7_reading 27 = .ok (.iconst 0, 1) := by decide +kernel
theorem dX7_reading_28 : decode cX7_reading 28 = .ok (.iaload, 1) := by decide +kernel
theorem dX7_reading_29 : decode cX7_reading 29 = .ok (.aload_n 0, 1) := by decide +kernel
theorem dX7_reading_30 : decode cX7_reading 30 = .ok (.iload_n 1, 1) := by decide +kernel
theorem dX7_reading_31 : decode cX7_reading 31 = .ok (.aload_n 0, 1) := by decide +kernel
theorem dX7_reading_32 : decode cX7_reading 32 = .ok (.getfield 7, 3) := by decide +kernel
theorem dX7_reading_35 : decode cX7_reading 35 = .ok (.iconst 0, 1) := by decide +kernel
theorem dX7_reading_36 : decode cX7_reading 36 = .ok (.iaload, 1) := by decide +kernel
theorem dX7_reading_37 : decode cX7_reading 37 = .ok (.invokevirtual 45, 3) := by decide +kernel
theorem dX7_reading_40 : decode cX7_reading 40 = .ok (.iadd, 1) := by decide +kernel
theorem dX7_reading_41 : decode cX7_reading 41 = .ok (.ireturn, 1) := by decide +kernel
theorem dX7_earliest_0 : decode cX7_earliest 0 = .ok (.aload_n 0, 1) := by decide +kernel
theorem dX7_earliest_1 : decode cX7_earliest 1 = .ok (.iload_n 1, 1) := by decide +kernel
theorem dX7_earliest_2 : decode cX7_earliest 2 = .ok (.invokestatic 102, 3) := by decide +kernel
theorem dX7_earliest_5 : decode cX7_earliest 5 = .ok (.ifCond .eq 7, 3) := by decide +kernel
theorem dX7_earliest_8 : decode cX7_earliest 8 = .ok (.iconst 0, 1) := by decide +kernel
theorem dX7_earliest_9 : decode cX7_earliest 9 = .ok (.goto 4, 3) := by decide +kernel
theorem dX7_earliest_12 : decode cX7_earliest 12 = .ok (.iconst 1, 1) := by decide +kernel
theorem dX7_earliest_13 : decode cX7_earliest 13 = .ok (.invokevirtual 136, 3) := by decide +kernel
theorem dX7_earliest_16 : decode cX7_earliest 16 = .ok (.ifCond .eq 7, 3) := by decide +kernel
theorem dX7_earliest_19 : decode cX7_earliest 19 = .ok (.iconst 0, 1) := by decide +kernel
theorem dX7_earliest_20 : decode cX7_earliest 20 = .ok (.goto 14, 3) := by decide +kernel
theorem dX7_earliest_23 : decode cX7_earliest 23 = .ok (.aload_n 0, 1) := by decide +kernel
theorem dX7_earliest_24 : decode cX7_earliest 24 = .ok (.iload_n 1, 1) := by decide +kernel
theorem dX7_earliest_25 : decode cX7_earliest 25 = .ok (.aload_n 0, 1) := by decide +kernel
theorem dX7_earliest_26 : decode cX7_earliest 26 = .ok (.getfield 7, 3) := by decide +kernel
theorem dX7_earliest_29 : decode cX7_earliest 29 = .ok (.iconst 0, 1) := by decide +kernel
theorem dX7_earliest_30 : decode cX7_earliest 30 = .ok (.iaload, 1) := by decide +kernel
theorem dX7_earliest_31 : decode cX7_earliest 31 = .ok (.invokevirtual 51, 3) := by decide +kernel
theorem dX7_earliest_34 : decode cX7_earliest 34 = .ok (.ireturn, 1) := by decide +kernel
theorem dX7_latest_0 : decode cX7_latest 0 = .ok (.aload_n 0, 1) := by decide +kernel
theorem dX7_latest_1 : decode cX7_latest 1 = .ok (.iload_n 1, 1) := by decide +kernel
theorem dX7_latest_2 : decode cX7_latest 2 = .ok (.invokestatic 102, 3) := by decide +kernel
theorem dX7_latest_5 : decode cX7_latest 5 = .ok (.ifCond .eq 7, 3) := by decide +kernel
theorem dX7_latest_8 : decode cX7_latest 8 = .ok (.iconst 0, 1) := by decide +kernel
theorem dX7_latest_9 : decode cX7_latest 9 = .ok (.goto 4, 3) := by decide +kernel
theorem dX7_latest_12 : decode cX7_latest 12 = .ok (.iconst 1, 1) := by decide +kernel
theorem dX7_latest_13 : decode cX7_latest 13 = .ok (.invokevirtual 136, 3) := by decide +kernel
theorem dX7_latest_16 : decode cX7_latest 16 = .ok (.ifCond .eq 7, 3) := by decide +kernel
theorem dX7_latest_19 : decode cX7_latest 19 = .ok (.iconst 0, 1) := by decide +kernel
theorem dX7_latest_20 : decode cX7_latest 20 = .ok (.goto 14, 3) := by decide +kernel
theorem dX7_latest_23 : decode cX7_latest 23 = .ok (.aload_n 0, 1) := by decide +kernel
theorem dX7_latest_24 : decode cX7_latest 24 = .ok (.iload_n 1, 1) := by decide +kernel
theorem dX7_latest_25 : decode cX7_latest 25 = .ok (.aload_n 0, 1) := by decide +kernel
theorem dX7_latest_26 : decode cX7_latest 26 = .ok (.getfield 7, 3) := by decide +kernel
theorem dX7_latest_29 : decode cX7_latest 29 = .ok (.iconst 0, 1) := by decide +kernel
theorem dX7_latest_30 : decode cX7_latest 30 = .ok (.iaload, 1) := by decide +kernel
theorem dX7_latest_31 : decode cX7_latest 31 = .ok (.invokevirtual 54, 3) := by decide +kernel
theorem dX7_latest_34 : decode cX7_latest 34 = .ok (.ireturn, 1) := by decide +kernel
theorem dX7_isSound_0 : decode cX7_isSound 0 = .ok (.aload_n 0, 1) := by decide +kernel
theorem dX7_isSound_1 : decode cX7_isSound 1 = .ok (.iload_n 1, 1) := by decide +kernel
theorem dX7_isSound_2 : decode cX7_isSound 2 = .ok (.invokestatic 102, 3) := by decide +kernel
theorem dX7_isSound_5 : decode cX7_isSound 5 = .ok (.ifCond .eq 7, 3) := by decide +kernel
theorem dX7_isSound_8 : decode cX7_isSound 8 = .ok (.iconst 0, 1) := by decide +kernel
theorem dX7_isSound_9 : decode cX7_isSound 9 = .ok (.goto 4, 3) := by decide +kernel
theorem dX7_isSound_12 : decode cX7_isSound 12 = .ok (.iconst 1, 1) := by decide +kernel
theorem dX7_isSound_13 : decode cX7_isSound 13 = .ok (.invokevirtual 136, 3) := by decide +kernel
theorem dX7_isSound_16 : decode cX7_isSound 16 = .ok (.ifCond .ne 21, 3) := by decide +kernel
theorem dX7_isSound_19 : decode cX7_isSound 19 = .ok (.aload_n 0, 1) := by decide +kernel
theorem dX7_isSound_20 : decode cX7_isSound 20 = .ok (.iload_n 1, 1) := by decide +kernel
theorem dX7_isSound_21 : decode cX7_isSound 21 = .ok (.aload_n 0, 1) := by decide +kernel
theorem dX7_isSound_22 : decode cX7_isSound 22 = .ok (.getfield 7, 3) := by decide +kernel
theorem dX7_isSound_25 : decode cX7_isSound 25 = .ok (.iconst 0, 1) := by decide +kernel
theorem dX7_isSound_26 : decode cX7_isSound 26 = .ok (.iaload, 1) := by decide +kernel
theorem dX7_isSound_27 : decode cX7_isSound 27 = .ok (.invokevirtual 57, 3) := by decide +kernel
theorem dX7_isSound_30 : decode cX7_isSound 30 = .ok (.ifCond .eq 7, 3) := by decide +kernel
theorem dX7_isSound_33 : decode cX7_isSound 33 = .ok (.iconst 1, 1) := by decide +kernel
theorem dX7_isSound_34 : decode cX7_isSound 34 = .ok (.goto 4, 3) := by decide +kernel
theorem dX7_isSound_37 : decode cX7_isSound 37 = .ok (.iconst 0, 1) := by decide +kernel
theorem dX7_isSound_38 : decode cX7_isSound 38 = .ok (.ireturn, 1) := by decide +kernel
theorem dX7_nextTimestamp_0 : decode cX7_nextTimestamp 0 = .ok (.aload_n 0, 1) := by decide +kernel
theorem dX7_nextTimestamp_1 : decode cX7_nextTimestamp 1 = .ok (.iload_n 1, 1) := by decide +kernel
theorem dX7_nextTimestamp_2 : decode cX7_nextTimestamp 2 = .ok (.invokestatic 102, 3) := by decide +kernel
theorem dX7_nextTimestamp_5 : decode cX7_nextTimestamp 5 = .ok (.ifCond .eq 7, 3) := by decide +kernel
theorem dX7_nextTimestamp_8 : decode cX7_nextTimestamp 8 = .ok (.iconst 0, 1) := by decide +kernel
theorem dX7_nextTimestamp_9 : decode cX7_nextTimestamp 9 = .ok (.goto 4, 3) := by decide +kernel
theorem dX7_nextTimestamp_12 : decode cX7_nextTimestamp 12 = .ok (.iconst 1, 1) := by decide +kernel
theorem dX7_nextTimestamp_13 : decode cX7_nextTimestamp 13 = .ok (.invokevirtual 136, 3) := by decide +kernel
theorem dX7_nextTimestamp_16 : decode cX7_nextTimestamp 16 = .ok (.ifCond .eq 7, 3) := by decide +kernel
theorem dX7_nextTimestamp_19 : decode cX7_nextTimestamp 19 = .ok (.iconst 0, 1) := by decide +kernel
theorem dX7_nextTimestamp_20 : decode cX7_nextTimestamp 20 = .ok (.goto 14, 3) := by decide +kernel
theorem dX7_nextTimestamp_23 : decode cX7_nextTimestamp 23 = .ok (.aload_n 0, 1) := by decide +kernel
theorem dX7_nextTimestamp_24 : decode cX7_nextTimestamp 24 = .ok (.iload_n 1, 1) := by decide +kernel
theorem dX7_nextTimestamp_25 : decode cX7_nextTimestamp 25 = .ok (.aload_n 0, 1) := by decide +kernel
theorem dX7_nextTimestamp_26 : decode cX7_nextTimestamp 26 = .ok (.getfield 7, 3) := by decide +kernel
theorem dX7_nextTimestamp_29 : decode cX7_nextTimestamp 29 = .ok (.iconst 0, 1) := by decide +kernel
theorem dX7_nextTimestamp_30 : decode cX7_nextTimestamp 30 = .ok (.iaload, 1) := by decide +kernel
theorem dX7_nextTimestamp_31 : decode cX7_nextTimestamp 31 = .ok (.invokevirtual 86, 3) := by decide +kernel
theorem dX7_nextTimestamp_34 : decode cX7_nextTimestamp 34 = .ok (.ireturn, 1) := by decide +kernel
theorem dX7_transactions_0 : decode cX7_transactions 0 = .ok (.aload_n 0, 1) := by decide +kernel
theorem dX7_transactions_1 : decode cX7_transactions 1 = .ok (.iconst 0, 1) := by decide +kernel
theorem dX7_transactions_2 : decode cX7_transactions 2 = .ok (.putfield 26, 3) := by decide +kernel
theorem dX7_transactions_5 : decode cX7_transactions 5 = .ok (.aload_n 0, 1) := by decide +kernel
theorem dX7_transactions_6 : decode cX7_transactions 6 = .ok (.getfield 7, 3) := by decide +kernel
theorem dX7_transactions_9 : decode cX7_transactions 9 = .ok (.iconst 3, 1) := by decide +kernel
theorem dX7_transactions_10 : decode cX7_transactions 10 = .ok (.iaload, 1) := by decide +kernel
theorem dX7_transactions_11 : decode cX7_transactions 11 = .ok (.ireturn, 1) := by decide +kernel
theorem dX7_throwsFor_0 : decode cX7_throwsFor 0 = .ok (.aload_n 0, 1) := by decide +kernel
theorem dX7_throwsFor_1 : decode cX7_throwsFor 1 = .ok (.aload_n 0, 1) := by decide +kernel
theorem dX7_throwsFor_2 : decode cX7_throwsFor 2 = .ok (.iload_n 1, 1) := by decide +kernel
theorem dX7_throwsFor_3 : decode cX7_throwsFor 3 = .ok (.invokevirtual 105, 3) := by decide +kernel
theorem dX7_throwsFor_6 : decode cX7_throwsFor 6 = .ok (.ifCond .eq 7, 3) := by decide +kernel
theorem dX7_throwsFor_9 : decode cX7_throwsFor 9 = .ok (.iconst 0, 1) := by decide +kernel
theorem dX7_throwsFor_10 : decode cX7_throwsFor 10 = .ok (.goto 4, 3) := by decide +kernel
theorem dX7_throwsFor_13 : decode cX7_throwsFor 13 = .ok (.iconst 1, 1) := by decide +kernel
theorem dX7_throwsFor_14 : decode cX7_throwsFor 14 = .ok (.invokevirtual 136, 3) := by decide +kernel
theorem dX7_throwsFor_17 : decode cX7_throwsFor 17 = .ok (.ireturn, 1) := by decide +kernel
theorem dX7_isStamped_0 : decode cX7_isStamped 0 = .ok (.aload_n 0, 1) := by decide +kernel
theorem dX7_isStamped_1 : decode cX7_isStamped 1 = .ok (.iload_n 1, 1) := by decide +kernel
theorem dX7_isStamped_2 : decode cX7_isStamped 2 = .ok (.iconst 1, 1) := by decide +kernel
theorem dX7_isStamped_3 : decode cX7_isStamped 3 = .ok (.invokevirtual 61, 3) := by decide +kernel
theorem dX7_isStamped_6 : decode cX7_isStamped 6 = .ok (.iconst 1, 1) := by decide +kernel
theorem dX7_isStamped_7 : decode cX7_isStamped 7 = .ok (.if_icmp .eq 13, 3) := by decide +kernel
theorem dX7_isStamped_10 : decode cX7_isStamped 10 = .ok (.aload_n 0, 1) := by decide +kernel
theorem dX7_isStamped_11 : decode cX7_isStamped 11 = .ok (.iload_n 1, 1) := by decide +kernel
theorem dX7_isStamped_12 : decode cX7_isStamped 12 = .ok (.iconst 1, 1) := by decide +kernel
theorem dX7_isStamped_13 : decode cX7_isStamped 13 = .ok (.invokevirtual 61, 3) := by decide +kernel
theorem dX7_isStamped_16 : decode cX7_isStamped 16 = .ok (.iconst 2, 1) := by decide +kernel
theorem dX7_isStamped_17 : decode cX7_isStamped 17 = .ok (.if_icmp .ne 7, 3) := by decide +kernel
theorem dX7_isStamped_20 : decode cX7_isStamped 20 = .ok (.iconst 1, 1) := by decide +kernel
theorem dX7_isStamped_21 : decode cX7_isStamped 21 = .ok (.goto 4, 3) := by decide +kernel
theorem dX7_isStamped_24 : decode cX7_isStamped 24 = .ok (.iconst 0, 1) := by decide +kernel
theorem dX7_isStamped_25 : decode cX7_isStamped 25 = .ok (.ireturn, 1) := by decide +kernel
theorem dX7_state_0 : decode cX7_state 0 = .ok (.aload_n 0, 1) := by decide +kernel
theorem dX7_state_1 : decode cX7_state 1 = .ok (.iload_n 1, 1) := by decide +kernel
theorem dX7_state_2 : decode cX7_state 2 = .ok (.invokevirtual 223, 3) := by decide +kernel
theorem dX7_state_5 : decode cX7_state 5 = .ok (.ifCond .eq 7, 3) := by decide +kernel
theorem dX7_state_8 : decode cX7_state 8 = .ok (.iconst 0, 1) := by decide +kernel
theorem dX7_state_9 : decode cX7_state 9 = .ok (.goto 9, 3) := by decide +kernel
theorem dX7_state_12 : decode cX7_state 12 = .ok (.aload_n 0, 1) := by decide +kernel
theorem dX7_state_13 : decode cX7_state 13 = .ok (.iload_n 1, 1) := by decide +kernel
theorem dX7_state_14 : decode cX7_state 14 = .ok (.iconst 1, 1) := by decide +kernel
theorem dX7_state_15 : decode cX7_state 15 = .ok (.invokevirtual 61, 3) := by decide +kernel
theorem dX7_state_18 : decode cX7_state 18 = .ok (.ireturn, 1) := by decide +kernel
theorem dX7_timestamp_0 : decode cX7_timestamp 0 = .ok (.aload_n 0, 1) := by decide +kernel
theorem dX7_timestamp_1 : decode cX7_timestamp 1 = .ok (.iload_n 1, 1) := by decide +kernel
theorem dX7_timestamp_2 : decode cX7_timestamp 2 = .ok (.invokevirtual 223, 3) := by decide +kernel
theorem dX7_timestamp_5 : decode cX7_timestamp 5 = .ok (.ifCond .eq 7, 3) := by decide +kernel
theorem dX7_timestamp_8 : decode cX7_timestamp 8 = .ok (.iconst 0, 1) := by decide +kernel
theorem dX7_timestamp_9 : decode cX7_timestamp 9 = .ok (.goto 21, 3) := by decide +kernel
theorem dX7_timestamp_12 : decode cX7_timestamp 12 = .ok (.aload_n 0, 1) := by decide +kernel
theorem dX7_timestamp_13 : decode cX7_timestamp 13 = .ok (.iload_n 1, 1) := by decide +kernel
theorem dX7_timestamp_14 : decode cX7_timestamp 14 = .ok (.invokevirtual 226, 3) := by decide +kernel
theorem dX7_timestamp_17 : decode cX7_timestamp 17 = .ok (.ifCond .eq 12, 3) := by decide +kernel
theorem dX7_timestamp_20 : decode cX7_timestamp 20 = .ok (.aload_n 0, 1) := by decide +kernel
theorem dX7_timestamp_21 : decode cX7_timestamp 21 = .ok (.iload_n 1, 1) := by decide +kernel
theorem dX7_timestamp_22 : decode cX7_timestamp 22 = .ok (.iconst 2, 1) := by decide +kernel
theorem dX7_timestamp_23 : decode cX7_timestamp 23 = .ok (.invokevirtual 61, 3) := by decide +kernel
theorem dX7_timestamp_26 : decode cX7_timestamp 26 = .ok (.goto 4, 3) := by decide +kernel
theorem dX7_timestamp_29 : decode cX7_timestamp 29 = .ok (.iconst (-1), 1) := by decide +kernel
theorem dX7_timestamp_30 : decode cX7_timestamp 30 = .ok (.ireturn, 1) := by decide +kernel
theorem dX7_requestTime_0 : decode cX7_requestTime 0 = .ok (.aload_n 0, 1) := by decide +kernel
theorem dX7_requestTime_1 : decode cX7_requestTime 1 = .ok (.iload_n 1, 1) := by decide +kernel
theorem dX7_requestTime_2 : decode cX7_requestTime 2 = .ok (.invokevirtual 223, 3) := by decide +kernel
theorem dX7_requestTime_5 : decode cX7_requestTime 5 = .ok (.ifCond .eq 7, 3) := by decide +kernel
theorem dX7_requestTime_8 : decode cX7_requestTime 8 = .ok (.iconst 0, 1) := by decide +kernel
theorem dX7_requestTime_9 : decode cX7_requestTime 9 = .ok (.goto 21, 3) := by decide +kernel
theorem dX7_requestTime_12 : decode cX7_requestTime 12 = .ok (.aload_n 0, 1) := by decide +kernel
theorem dX7_requestTime_13 : decode cX7_requestTime 13 = .ok (.iload_n 1, 1) := by decide +kernel
theorem dX7_requestTime_14 : decode cX7_requestTime 14 = .ok (.invokevirtual 226, 3) := by decide +kernel
theorem dX7_requestTime_17 : decode cX7_requestTime 17 = .ok (.ifCond .eq 12, 3) := by decide +kernel
theorem dX7_requestTime_20 : decode cX7_requestTime 20 = .ok (.aload_n 0, 1) := by decide +kernel
theorem dX7_requestTime_21 : decode cX7_requestTime 21 = .ok (.iload_n 1, 1) := by decide +kernel
theorem dX7_requestTime_22 : decode cX7_requestTime 22 = .ok (.iconst 3, 1) := by decide +kernel
theorem dX7_requestTime_23 : decode cX7_requestTime 23 = .ok (.invokevirtual 61, 3) := by decide +kernel
theorem dX7_requestTime_26 : decode cX7_requestTime 26 = .ok (.goto 4, 3) := by decide +kernel
theorem dX7_requestTime_29 : decode cX7_requestTime 29 = .ok (.iconst (-1), 1) := by decide +kernel
theorem dX7_requestTime_30 : decode cX7_requestTime 30 = .ok (.ireturn, 1) := by decide +kernel
theorem dX7_commitTime_0 : decode cX7_commitTime 0 = .ok (.aload_n 0, 1) := by decide +kernel
theorem dX7_commitTime_1 : decode cX7_commitTime 1 = .ok (.iload_n 1, 1) := by decide +kernel
theorem dX7_commitTime_2 : decode cX7_commitTime 2 = .ok (.invokevirtual 223, 3) := by decide +kernel
theorem dX7_commitTime_5 : decode cX7_commitTime 5 = .ok (.ifCond .eq 7, 3) := by decide +kernel
theorem dX7_commitTime_8 : decode cX7_commitTime 8 = .ok (.iconst 0, 1) := by decide +kernel
theorem dX7_commitTime_9 : decode cX7_commitTime 9 = .ok (.goto 23, 3) := by decide +kernel
theorem dX7_commitTime_12 : decode cX7_commitTime 12 = .ok (.aload_n 0, 1) := by decide +kernel
theorem dX7_commitTime_13 : decode cX7_commitTime 13 = .ok (.iload_n 1, 1) := by decide +kernel
theorem dX7_commitTime_14 : decode cX7_commitTime 14 = .ok (.iconst 1, 1) := by decide +kernel
theorem dX7_commitTime_15 : decode cX7_commitTime 15 = .ok (.invokevirtual 61, 3) := by decide +kernel
theorem dX7_commitTime_18 : decode cX7_commitTime 18 = .ok (.iconst 2, 1) := by decide +kernel
theorem dX7_commitTime_19 : decode cX7_commitTime 19 = .ok (.if_icmp .ne 12, 3) := by decide +kernel
theorem dX7_commitTime_22 : decode cX7_commitTime 22 = .ok (.aload_n 0, 1) := by decide +kernel
theorem dX7_commitTime_23 : decode cX7_commitTime 23 = .ok (.iload_n 1, 1) := by decide +kernel
theorem dX7_commitTime_24 : decode cX7_commitTime 24 = .ok (.iconst 4, 1) := by decide +kernel
theorem dX7_commitTime_25 : decode cX7_commitTime 25 = .ok (.invokevirtual 61, 3) := by decide +kernel
theorem dX7_commitTime_28 : decode cX7_commitTime 28 = .ok (.goto 4, 3) := by decide +kernel
theorem dX7_commitTime_31 : decode cX7_commitTime 31 = .ok (.iconst (-1), 1) := by decide +kernel
theorem dX7_commitTime_32 : decode cX7_commitTime 32 = .ok (.ireturn, 1) := by decide +kernel
theorem dX7_bufferedValue_0 : decode cX7_bufferedValue 0 = .ok (.aload_n 0, 1) := by decide +kernel
theorem dX7_bufferedValue_1 : decode cX7_bufferedValue 1 = .ok (.iload_n 1, 1) := by decide +kernel
theorem dX7_bufferedValue_2 : decode cX7_bufferedValue 2 = .ok (.invokevirtual 105, 3) := by decide +kernel
theorem dX7_bufferedValue_5 : decode cX7_bufferedValue 5 = .ok (.ifCond .eq 14, 3) := by decide +kernel
theorem dX7_bufferedValue_8 : decode cX7_bufferedValue 8 = .ok (.iload_n 2, 1) := by decide +kernel
theorem dX7_bufferedValue_9 : decode cX7_bufferedValue 9 = .ok (.invokestatic 108, 3) := by decide +kernel
theorem dX7_bufferedValue_12 : decode cX7_bufferedValue 12 = .ok (.ifCond .eq 7, 3) := by decide +kernel
theorem dX7_bufferedValue_15 : decode cX7_bufferedValue 15 = .ok (.iconst 1, 1) := by decide +kernel
theorem dX7_bufferedValue_16 : decode cX7_bufferedValue 16 = .ok (.goto 4, 3) := by decide +kernel
theorem dX7_bufferedValue_19 : decode cX7_bufferedValue 19 = .ok (.iconst 0, 1) := by decide +kernel
theorem dX7_bufferedValue_20 : decode cX7_bufferedValue 20 = .ok (.istore_n 3, 1) := by decide +kernel
theorem dX7_bufferedValue_21 : decode cX7_bufferedValue 21 = .ok (.aload_n 0, 1) := by decide +kernel
theorem dX7_bufferedValue_22 : decode cX7_bufferedValue 22 = .ok (.iload_n 3, 1) := by decide +kernel
theorem dX7_bufferedValue_23 : decode cX7_bufferedValue 23 = .ok (.ifCond .eq 7, 3) := by decide +kernel
theorem dX7_bufferedValue_26 : decode cX7_bufferedValue 26 = .ok (.iconst 0, 1) := by decide +kernel
theorem dX7_bufferedValue_27 : decode cX7_bufferedValue 27 = .ok (.goto 4, 3) := by decide +kernel
theorem dX7_bufferedValue_30 : decode cX7_bufferedValue 30 = .ok (.iconst 1, 1) := by decide +kernel
theorem dX7_bufferedValue_31 : decode cX7_bufferedValue 31 = .ok (.invokevirtual 136, 3) := by decide +kernel
theorem dX7_bufferedValue_34 : decode cX7_bufferedValue 34 = .ok (.ifCond .eq 7, 3) := by decide +kernel
theorem dX7_bufferedValue_37 : decode cX7_bufferedValue 37 = .ok (.iconst 0, 1) := by decide +kernel
theorem dX7_bufferedValue_38 : decode cX7_bufferedValue 38 = .ok (.goto 11, 3) := by decide +kernel
theorem dX7_bufferedValue_41 : decode cX7_bufferedValue 41 = .ok (.aload_n 0, 1) := by decide +kernel
theorem dX7_bufferedValue_42 : decode cX7_bufferedValue 42 = .ok (.iload_n 1, 1) := by decide +kernel
theorem dX7_bufferedValue_43 : decode cX7_bufferedValue 43 = .ok (.iconst 5, 1) := by decide +kernel
theorem dX7_bufferedValue_44 : decode cX7_bufferedValue 44 = .ok (.iload_n 2, 1) := by decide +kernel
theorem dX7_bufferedValue_45 : decode cX7_bufferedValue 45 = .ok (.iadd, 1) := by decide +kernel
theorem dX7_bufferedValue_46 : decode cX7_bufferedValue 46 = .ok (.invokevirtual 61, 3) := by decide +kernel
theorem dX7_bufferedValue_49 : decode cX7_bufferedValue 49 = .ok (.ireturn, 1) := by decide +kernel
theorem dX7_recordedTimestamp_0 : decode cX7_recordedTimestamp 0 = .ok (.aload_n 0, 1) := by decide +kernel
theorem dX7_recordedTimestamp_1 : decode cX7_recordedTimestamp 1 = .ok (.iload_n 1, 1) := by decide +kernel
theorem dX7_recordedTimestamp_2 : decode cX7_recordedTimestamp 2 = .ok (.invokevirtual 105, 3) := by decide +kernel
theorem dX7_recordedTimestamp_5 : decode cX7_recordedTimestamp 5 = .ok (.ifCond .eq 14, 3) := by decide +kernel
theorem dX7_recordedTimestamp_8 : decode cX7_recordedTimestamp 8 = .ok (.iload_n 2, 1) := by decide +kernel
theorem dX7_recordedTimestamp_9 : decode cX7_recordedTimestamp 9 = .ok (.invokestatic 108, 3) := by decide +kernel
theorem dX7_recordedTimestamp_12 : decode cX7_recordedTimestamp 12 = .ok (.ifCond .eq 7, 3) := by decide +kernel
theorem dX7_recordedTimestamp_15 : decode cX7_recordedTimestamp 15 = .ok (.iconst 1, 1) := by decide +kernel
theorem dX7_recordedTimestamp_16 : decode cX7_recordedTimestamp 16 = .ok (.goto 4, 3) := by decide +kernel
theorem dX7_recordedTimestamp_19 : decode cX7_recordedTimestamp 19 = .ok (.iconst 0, 1) := by decide +kernel
theorem dX7_recordedTimestamp_20 : decode cX7_recordedTimestamp 20 = .ok (.istore_n 3, 1) := by decide +kernel
theorem dX7_recordedTimestamp_21 : decode cX7_recordedTimestamp 21 = .ok (.aload_n 0, 1) := by decide +kernel
theorem dX7_recordedTimestamp_22 : decode cX7_recordedTimestamp 22 = .ok (.iload_n 3, 1) := by decide +kernel
theorem dX7_recordedTimestamp_23 : decode cX7_recordedTimestamp 23 = .ok (.ifCond .eq 7, 3) := by decide +kernel
theorem dX7_recordedTimestamp_26 : decode cX7_recordedTimestamp 26 = .ok (.iconst 0, 1) := by decide +kernel
theorem dX7_recordedTimestamp_27 : decode cX7_recordedTimestamp 27 = .ok (.goto 4, 3) := by decide +kernel
theorem dX7_recordedTimestamp_30 : decode cX7_recordedTimestamp 30 = .ok (.iconst 1, 1) := by decide +kernel
theorem dX7_recordedTimestamp_31 : decode cX7_recordedTimestamp 31 = .ok (.invokevirtual 136, 3) := by decide +kernel
theorem dX7_recordedTimestamp_34 : decode cX7_recordedTimestamp 34 = .ok (.ifCond .eq 7, 3) := by decide +kernel
theorem dX7_recordedTimestamp_37 : decode cX7_recordedTimestamp 37 = .ok (.iconst 0, 1) := by decide +kernel
theorem dX7_recordedTimestamp_38 : decode cX7_recordedTimestamp 38 = .ok (.goto 12, 3) := by decide +kernel
theorem dX7_recordedTimestamp_41 : decode cX7_recordedTimestamp 41 = .ok (.aload_n 0, 1) := by decide +kernel
theorem dX7_recordedTimestamp_42 : decode cX7_recordedTimestamp 42 = .ok (.iload_n 1, 1) := by decide +kernel
theorem dX7_recordedTimestamp_43 : decode cX7_recordedTimestamp 43 = .ok (.bipush 13, 2) := by decide +kernel
theorem dX7_recordedTimestamp_45 : decode cX7_recordedTimestamp 45 = .ok (.iload_n 2, 1) := by decide +kernel
theorem dX7_recordedTimestamp_46 : decode cX7_recordedTimestamp 46 = .ok (.iadd, 1) := by decide +kernel
theorem dX7_recordedTimestamp_47 : decode cX7_recordedTimestamp 47 = .ok (.invokevirtual 61, 3) := by decide +kernel
theorem dX7_recordedTimestamp_50 : decode cX7_recordedTimestamp 50 = .ok (.ireturn, 1) := by decide +kernel
theorem dX7_ifCommitted_0 : decode cX7_ifCommitted 0 = .ok (.aload_n 0, 1) := by decide +kernel
theorem dX7_ifCommitted_1 : decode cX7_ifCommitted 1 = .ok (.iload_n 1, 1) := by decide +kernel
theorem dX7_ifCommitted_2 : decode cX7_ifCommitted 2 = .ok (.invokevirtual 223, 3) := by decide +kernel
theorem dX7_ifCommitted_5 : decode cX7_ifCommitted 5 = .ok (.ifCond .eq 7, 3) := by decide +kernel
theorem dX7_ifCommitted_8 : decode cX7_ifCommitted 8 = .ok (.iconst 0, 1) := by decide +kernel
theorem dX7_ifCommitted_9 : decode cX7_ifCommitted 9 = .ok (.goto 21, 3) := by decide +kernel
theorem dX7_ifCommitted_12 : decode cX7_ifCommitted 12 = .ok (.aload_n 0, 1) := by decide +kernel
theorem dX7_ifCommitted_13 : decode cX7_ifCommitted 13 = .ok (.iload_n 1, 1) := by decide +kernel
theorem dX7_ifCommitted_14 : decode cX7_ifCommitted 14 = .ok (.iconst 1, 1) := by decide +kernel
theorem dX7_ifCommitted_15 : decode cX7_ifCommitted 15 = .ok (.invokevirtual 61, 3) := by decide +kernel
theorem dX7_ifCommitted_18 : decode cX7_ifCommitted 18 = .ok (.ifCond .ne 11, 3) := by decide +kernel
theorem dX7_ifCommitted_21 : decode cX7_ifCommitted 21 = .ok (.aload_n 0, 1) := by decide +kernel
theorem dX7_ifCommitted_22 : decode cX7_ifCommitted 22 = .ok (.iload_n 1, 1) := by decide +kernel
theorem dX7_ifCommitted_23 : decode cX7_ifCommitted 23 = .ok (.invokevirtual 158, 3) := by decide +kernel
theorem dX7_ifCommitted_26 : decode cX7_ifCommitted 26 = .ok (.goto 4, 3) := by decide +kernel
theorem dX7_ifCommitted_29 : decode cX7_ifCommitted 29 = .ok (.iconst (-1), 1) := by decide +kernel
theorem dX7_ifCommitted_30 : decode cX7_ifCommitted 30 = .ok (.ireturn, 1) := by decide +kernel
theorem dX7_ticksToCommit_0 : decode cX7_ticksToCommit 0 = .ok (.aload_n 0, 1) := by decide +kernel
theorem dX7_ticksToCommit_1 : decode cX7_ticksToCommit 1 = .ok (.iload_n 1, 1) := by decide +kernel
theorem dX7_ticksToCommit_2 : decode cX7_ticksToCommit 2 = .ok (.invokevirtual 223, 3) := by decide +kernel
theorem dX7_ticksToCommit_5 : decode cX7_ticksToCommit 5 = .ok (.ifCond .eq 5, 3) := by decide +kernel
theorem dX7_ticksToCommit_8 : decode cX7_ticksToCommit 8 = .ok (.iconst 0, 1) := by decide +kernel
theorem dX7_ticksToCommit_9 : decode cX7_ticksToCommit 9 = .ok (.ireturn, 1) := by decide +kernel
theorem dX7_ticksToCommit_10 : decode cX7_ticksToCommit 10 = .ok (.aload_n 0, 1) := by decide +kernel
theorem dX7_ticksToCommit_11 : decode cX7_ticksToCommit 11 = .ok (.iload_n 1, 1) := by decide +kernel
theorem dX7_ticksToCommit_12 : decode cX7_ticksToCommit 12 = .ok (.iconst 1, 1) := by decide +kernel
theorem dX7_ticksToCommit_13 : decode cX7_ticksToCommit 13 = .ok (.invokevirtual 61, 3) := by decide +kernel
theorem dX7_ticksToCommit_16 : decode cX7_ticksToCommit 16 = .ok (.iconst 1, 1) := by decide +kernel
theorem dX7_ticksToCommit_17 : decode cX7_ticksToCommit 17 = .ok (.if_icmp .eq 19, 3) := by decide +kernel
theorem dX7_ticksToCommit_20 : decode cX7_ticksToCommit 20 = .ok (.aload_n 0, 1) := by decide +kernel
theorem dX7_ticksToCommit_21 : decode cX7_ticksToCommit 21 = .ok (.iload_n 1, 1) := by decide +kernel
theorem dX7_ticksToCommit_22 : decode cX7_ticksToCommit 22 = .ok (.iconst 1, 1) := by decide +kernel
theorem dX7_ticksToCommit_23 : decode cX7_ticksToCommit 23 = .ok (.invokevirtual 61, 3) := by decide +kernel
theorem dX7_ticksToCommit_26 : decode cX7_ticksToCommit 26 = .ok (.iconst 2, 1) := by decide +kernel
theorem dX7_ticksToCommit_27 : decode cX7_ticksToCommit 27 = .ok (.if_icmp .ne 7, 3) := by decide +kernel
theorem dX7_ticksToCommit_30 : decode cX7_ticksToCommit 30 = .ok (.iconst 0, 1) := by decide +kernel
theorem dX7_ticksToCommit_31 : decode cX7_ticksToCommit 31 = .ok (.goto 4, 3) := by decide +kernel
theorem dX7_ticksToCommit_34 : decode cX7_ticksToCommit 34 = .ok (.iconst (-1), 1) := by decide +kernel
theorem dX7_ticksToCommit_35 : decode cX7_ticksToCommit 35 = .ok (.ireturn, 1) := by decide +kernel
theorem dX7_ticksToCommit_36 : decode cX7_ticksToCommit 36 = .ok (.iconst 1, 1) := by decide +kernel
theorem dX7_ticksToCommit_37 : decode cX7_ticksToCommit 37 = .ok (.istore_n 2, 1) := by decide +kernel
theorem dX7_ticksToCommit_38 : decode cX7_ticksToCommit 38 = .ok (.iload_n 2, 1) := by decide +kernel
theorem dX7_ticksToCommit_39 : decode cX7_ticksToCommit 39 = .ok (.sipush 10000, 3) := by decide +kernel
theorem dX7_ticksToCommit_42 : decode cX7_ticksToCommit 42 = .ok (.if_icmp .gt 38, 3) := by decide +kernel
theorem dX7_ticksToCommit_45 : decode cX7_ticksToCommit 45 = .ok (.aload_n 0, 1) := by decide +kernel
theorem dX7_ticksToCommit_46 : decode cX7_ticksToCommit 46 = .ok (.iload_n 1, 1) := by decide +kernel
theorem dX7_ticksToCommit_47 : decode cX7_ticksToCommit 47 = .ok (.iconst 2, 1) := by decide +kernel
theorem dX7_ticksToCommit_48 : decode cX7_ticksToCommit 48 = .ok (.invokevirtual 61, 3) := by decide +kernel
theorem dX7_ticksToCommit_51 : decode cX7_ticksToCommit 51 = .ok (.aload_n 0, 1) := by decide +kernel
theorem dX7_ticksToCommit_52 : decode cX7_ticksToCommit 52 = .ok (.aload_n 0, 1) := by decide +kernel
theorem dX7_ticksToCommit_53 : decode cX7_ticksToCommit 53 = .ok (.iload_n 1, 1) := by decide +kernel
theorem dX7_ticksToCommit_54 : decode cX7_ticksToCommit 54 = .ok (.iconst 0, 1) := by decide +kernel
theorem dX7_ticksToCommit_55 : decode cX7_ticksToCommit 55 = .ok (.invokevirtual 61, 3) := by decide +kernel
theorem dX7_ticksToCommit_58 : decode cX7_ticksToCommit 58 = .ok (.aload_n 0, 1) := by decide +kernel
theorem dX7_ticksToCommit_59 : decode cX7_ticksToCommit 59 = .ok (.getfield 7, 3) := by decide +kernel
theorem dX7_ticksToCommit_62 : decode cX7_ticksToCommit 62 = .ok (.iconst 0, 1) := by decide +kernel
theorem dX7_ticksToCommit_63 : decode cX7_ticksToCommit 63 = .ok (.iaload, 1) := by decide +kernel
theorem dX7_ticksToCommit_64 : decode cX7_ticksToCommit 64 = .ok (.iload_n 2, 1) := by decide +kernel
theorem dX7_ticksToCommit_65 : decode cX7_ticksToCommit 65 = .ok (.iadd, 1) := by decide +kernel
theorem dX7_ticksToCommit_66 : decode cX7_ticksToCommit 66 = .ok (.invokevirtual 51, 3) := by decide +kernel
theorem dX7_ticksToCommit_69 : decode cX7_ticksToCommit 69 = .ok (.if_icmp .ge 5, 3) := by decide +kernel
theorem dX7_ticksToCommit_72 : decode cX7_ticksToCommit 72 = .ok (.iload_n 2, 1) := by decide +kernel
theorem dX7_ticksToCommit_73 : decode cX7_ticksToCommit 73 = .ok (.ireturn, 1) := by decide +kernel
theorem dX7_ticksToCommit_74 : decode cX7_ticksToCommit 74 = .ok (.iinc 2 1, 3) := by decide +kernel
theorem dX7_ticksToCommit_77 : decode cX7_ticksToCommit 77 = .ok (.goto (-39), 3) := by decide +kernel
theorem dX7_ticksToCommit_80 : decode cX7_ticksToCommit 80 = .ok (.iconst (-1), 1) := by decide +kernel
theorem dX7_ticksToCommit_81 : decode cX7_ticksToCommit 81 = .ok (.ireturn, 1) := by decide +kernel
theorem dX7_versions_0 : decode cX7_versions 0 = .ok (.aload_n 0, 1) := by decide +kernel
theorem dX7_versions_1 : decode cX7_versions 1 = .ok (.iload_n 1, 1) := by decide +kernel
theorem dX7_versions_2 : decode cX7_versions 2 = .ok (.invokestatic 108, 3) := by decide +kernel
theorem dX7_versions_5 : decode cX7_versions 5 = .ok (.ifCond .eq 7, 3) := by decide +kernel
theorem dX7_versions_8 : decode cX7_versions 8 = .ok (.iconst 0, 1) := by decide +kernel
theorem dX7_versions_9 : decode cX7_versions 9 = .ok (.goto 4, 3) := by decide +kernel
theorem dX7_versions_12 : decode cX7_versions 12 = .ok (.iconst 1, 1) := by decide +kernel
theorem dX7_versions_13 : decode cX7_versions 13 = .ok (.invokevirtual 136, 3) := by decide +kernel
theorem dX7_versions_16 : decode cX7_versions 16 = .ok (.ifCond .eq 5, 3) := by decide +kernel
theorem dX7_versions_19 : decode cX7_versions 19 = .ok (.iconst 0, 1) := by decide +kernel
theorem dX7_versions_20 : decode cX7_versions 20 = .ok (.ireturn, 1) := by decide +kernel
theorem dX7_versions_21 : decode cX7_versions 21 = .ok (.iconst 1, 1) := by decide +kernel
theorem dX7_versions_22 : decode cX7_versions 22 = .ok (.istore_n 2, 1) := by decide +kernel
theorem dX7_versions_23 : decode cX7_versions 23 = .ok (.iconst 0, 1) := by decide +kernel
theorem dX7_versions_24 : decode cX7_versions 24 = .ok (.istore_n 3, 1) := by decide +kernel
theorem dX7_versions_25 : decode cX7_versions 25 = .ok (.iload_n 3, 1) := by decide +kernel
theorem dX7_versions_26 : decode cX7_versions 26 = .ok (.aload_n 0, 1) := by decide +kernel
theorem dX7_versions_27 : decode cX7_versions 27 = .ok (.getfield 7, 3) := by decide +kernel
theorem dX7_versions_30 : decode cX7_versions 30 = .ok (.iconst 3, 1) := by decide +kernel
theorem dX7_versions_31 : decode cX7_versions 31 = .ok (.iaload, 1) := by decide +kernel
theorem dX7_versions_32 : decode cX7_versions 32 = .ok (.if_icmp .ge 26, 3) := by decide +kernel
theorem dX7_versions_35 : decode cX7_versions 35 = .ok (.iload_n 2, 1) := by decide +kernel
theorem dX7_versions_36 : decode cX7_versions 36 = .ok (.aload_n 0, 1) := by decide +kernel
theorem dX7_versions_37 : decode cX7_versions 37 = .ok (.iload_n 3, 1) := by decide +kernel
theorem dX7_versions_38 : decode cX7_versions 38 = .ok (.iload_n 1, 1) := by decide +kernel
theorem dX7_versions_39 : decode cX7_versions 39 = .ok (.invokevirtual 67, 3) := by decide +kernel
theorem dX7_versions_42 : decode cX7_versions 42 = .ok (.ifCond .eq 7, 3) := by decide +kernel
theorem dX7_versions_45 : decode cX7_versions 45 = .ok (.iconst 1, 1) := by decide +kernel
theorem dX7_versions_46 : decode cX7_versions 46 = .ok (.goto 4, 3) := by decide +kernel
theorem dX7_versions_49 : decode cX7_versions 49 = .ok (.iconst 0, 1) := by decide +kernel
theorem dX7_versions_50 : decode cX7_versions 50 = .ok (.iadd, 1) := by decide +kernel
theorem dX7_versions_51 : decode cX7_versions 51 = .ok (.istore_n 2, 1) := by decide +kernel
theorem dX7_versions_52 : decode cX7_versions 52 = .ok (.iinc 3 1, 3) := by decide +kernel
theorem dX7_versions_55 : decode cX7_versions 55 = .ok (.goto (-30), 3) := by decide +kernel
theorem dX7_versions_58 : decode cX7_versions 58 = .ok (.iload_n 2, 1) := by decide +kernel
theorem dX7_versions_59 : decode cX7_versions 59 = .ok (.ireturn, 1) := by decide +kernel
theorem dX7_stampAt_0 : decode cX7_stampAt 0 = .ok (.iload_n 2, 1) := by decide +kernel
theorem dX7_stampAt_1 : decode cX7_stampAt 1 = .ok (.ifCond .ne 5, 3) := by decide +kernel
theorem dX7_stampAt_4 : decode cX7_stampAt 4 = .ok (.iconst 0, 1) := by decide +kernel
theorem dX7_stampAt_5 : decode cX7_stampAt 5 = .ok (.ireturn, 1) := by decide +kernel
theorem dX7_stampAt_6 : decode cX7_stampAt 6 = .ok (.iconst 0, 1) := by decide +kernel
theorem dX7_stampAt_7 : decode cX7_stampAt 7 = .ok (.istore_n 3, 1) := by decide +kernel
theorem dX7_stampAt_8 : decode cX7_stampAt 8 = .ok (.iload_n 3, 1) := by decide +kernel
theorem dX7_stampAt_9 : decode cX7_stampAt 9 = .ok (.aload_n 0, 1) := by decide +kernel
theorem dX7_stampAt_10 : decode cX7_stampAt 10 = .ok (.getfield 7, 3) := by decide +kernel
theorem dX7_stampAt_13 : decode cX7_stampAt 13 = .ok (.iconst 3, 1) := by decide +kernel
theorem dX7_stampAt_14 : decode cX7_stampAt 14 = .ok (.iaload, 1) := by decide +kernel
theorem dX7_stampAt_15 : decode cX7_stampAt 15 = .ok (.if_icmp .ge 90, 3) := by decide +kernel
theorem dX7_stampAt_18 : decode cX7_stampAt 18 = .ok (.iconst 1, 1) := by decide +kernel
theorem dX7_stampAt_19 : decode cX7_stampAt 19 = .ok (.istore 4, 2) := by decide +kernel
theorem dX7_stampAt_21 : decode cX7_stampAt 21 = .ok (.iconst 0, 1) := by decide +kernel
theorem dX7_stampAt_22 : decode cX7_stampAt 22 = .ok (.istore 5, 2) := by decide +kernel
theorem dX7_stampAt_24 : decode cX7_stampAt 24 = .ok (.iload 5, 2) := by decide +kernel
theorem dX7_stampAt_26 : decode cX7_stampAt 26 = .ok (.aload_n 0, 1) := by decide +kernel
theorem dX7_stampAt_27 : decode cX7_stampAt 27 = .ok (.getfield 7, 3) := by decide +kernel
theorem dX7_stampAt_30 : decode cX7_stampAt 30 = .ok (.iconst 3, 1) := by decide +kernel
theorem dX7_stampAt_31 : decode cX7_stampAt 31 = .ok (.iaload, 1) := by decide +kernel
theorem dX7_stampAt_32 : decode cX7_stampAt 32 = .ok (.if_icmp .ge 45, 3) := by decide +kernel
theorem dX7_stampAt_35 : decode cX7_stampAt 35 = .ok (.iload 4, 2) := by decide +kernel
theorem dX7_stampAt_37 : decode cX7_stampAt 37 = .ok (.aload_n 0, 1) := by decide +kernel
theorem dX7_stampAt_38 : decode cX7_stampAt 38 = .ok (.iload 5, 2) := by decide +kernel
theorem dX7_stampAt_40 : decode cX7_stampAt 40 = .ok (.iload_n 1, 1) := by decide +kernel
theorem dX7_stampAt_41 : decode cX7_stampAt 41 = .ok (.invokevirtual 67, 3) := by decide +kernel
theorem dX7_stampAt_44 : decode cX7_stampAt 44 = .ok (.ifCond .eq 23, 3) := by decide +kernel
theorem dX7_stampAt_47 : decode cX7_stampAt 47 = .ok (.aload_n 0, 1) := by decide +kernel
theorem dX7_stampAt_48 : decode cX7_stampAt 48 = .ok (.iload 5, 2) := by decide +kernel
theorem dX7_stampAt_50 : decode cX7_stampAt 50 = .ok (.iconst 2, 1) := by decide +kernel
theorem dX7_stampAt_51 : decode cX7_stampAt 51 = .ok (.invokevirtual 61, 3) := by decide +kernel
theorem dX7_stampAt_54 : decode cX7_stampAt 54 = .ok (.aload_n 0, 1) := by decide +kernel
theorem dX7_stampAt_55 : decode cX7_stampAt 55 = .ok (.iload_n 3, 1) := by decide +kernel
theorem dX7_stampAt_56 : decode cX7_stampAt 56 = .ok (.iconst 2, 1) := by decide +kernel
theorem dX7_stampAt_57 : decode cX7_stampAt 57 = .ok (.invokevirtual 61, 3) := by decide +kernel
theorem dX7_stampAt_60 : decode cX7_stampAt 60 = .ok (.if_icmp .ge 7, 3) := by decide +kernel
theorem dX7_stampAt_63 : decode cX7_stampAt 63 = .ok (.iconst 1, 1) := by decide +kernel
theorem dX7_stampAt_64 : decode cX7_stampAt 64 = .ok (.goto 4, 3) := by decide +kernel
theorem dX7_stampAt_67 : decode cX7_stampAt 67 = .ok (.iconst 0, 1) := by decide +kernel
theorem dX7_stampAt_68 : decode cX7_stampAt 68 = .ok (.iadd, 1) := by decide +kernel
theorem dX7_stampAt_69 : decode cX7_stampAt 69 = .ok (.istore 4, 2) := by decide +kernel
theorem dX7_stampAt_71 : decode cX7_stampAt 71 = .ok (.iinc 5 1, 3) := by decide +kernel
theorem dX7_stampAt_74 : decode cX7_stampAt 74 = .ok (.goto (-50), 3) := by decide +kernel
theorem dX7_stampAt_77 : decode cX7_stampAt 77 = .ok (.aload_n 0, 1) := by decide +kernel
theorem dX7_stampAt_78 : decode cX7_stampAt 78 = .ok (.iload_n 3, 1) := by decide +kernel
theorem dX7_stampAt_79 : decode cX7_stampAt 79 = .ok (.iload_n 1, 1) := by decide +kernel
theorem dX7_stampAt_80 : decode cX7_stampAt 80 = .ok (.invokevirtual 67, 3) := by decide +kernel
theorem dX7_stampAt_83 : decode cX7_stampAt 83 = .ok (.ifCond .eq 16, 3) := by decide +kernel
theorem dX7_stampAt_86 : decode cX7_stampAt 86 = .ok (.iload 4, 2) := by decide +kernel
theorem dX7_stampAt_88 : decode cX7_stampAt 88 = .ok (.iload_n 2, 1) := by decide +kernel
theorem dX7_stampAt_89 : decode cX7_stampAt 89 = .ok (.if_icmp .ne 10, 3) := by decide +kernel
theorem dX7_stampAt_92 : decode cX7_stampAt 92 = .ok (.aload_n 0, 1) := by decide +kernel
theorem dX7_stampAt_93 : decode cX7_stampAt 93 = .ok (.iload_n 3, 1) := by decide +kernel
theorem dX7_stampAt_94 : decode cX7_stampAt 94 = .ok (.iconst 2, 1) := by decide +kernel
theorem dX7_stampAt_95 : decode cX7_stampAt 95 = .ok (.invokevirtual 61, 3) := by decide +kernel
theorem dX7_stampAt_98 : decode cX7_stampAt 98 = .ok (.ireturn, 1) := by decide +kernel
theorem dX7_stampAt_99 : decode cX7_stampAt 99 = .ok (.iinc 3 1, 3) := by decide +kernel
theorem dX7_stampAt_102 : decode cX7_stampAt 102 = .ok (.goto (-94), 3) := by decide +kernel
theorem dX7_stampAt_105 : decode cX7_stampAt 105 = .ok (.iconst (-1), 1) := by decide +kernel
theorem dX7_stampAt_106 : decode cX7_stampAt 106 = .ok (.ireturn, 1) := by decide +kernel
theorem dX7_versionTimestamp_0 : decode cX7_versionTimestamp 0 = .ok (.iload_n 1, 1) := by decide +kernel
theorem dX7_versionTimestamp_1 : decode cX7_versionTimestamp 1 = .ok (.invokestatic 108, 3) := by decide +kernel
theorem dX7_versionTimestamp_4 : decode cX7_versionTimestamp 4 = .ok (.ifCond .eq 12, 3) := by decide +kernel
theorem dX7_versionTimestamp_7 : decode cX7_versionTimestamp 7 = .ok (.aload_n 0, 1) := by decide +kernel
theorem dX7_versionTimestamp_8 : decode cX7_versionTimestamp 8 = .ok (.iload_n 1, 1) := by decide +kernel
theorem dX7_versionTimestamp_9 : decode cX7_versionTimestamp 9 = .ok (.iload_n 2, 1) := by decide +kernel
theorem dX7_versionTimestamp_10 : decode cX7_versionTimestamp 10 = .ok (.invokevirtual 229, 3) := by decide +kernel
theorem dX7_versionTimestamp_13 : decode cX7_versionTimestamp 13 = .ok (.goto 4, 3) := by decide +kernel
theorem dX7_versionTimestamp_16 : decode cX7_versionTimestamp 16 = .ok (.iconst (-1), 1) := by decide +kernel
theorem dX7_versionTimestamp_17 : decode cX7_versionTimestamp 17 = .ok (.istore_n 3, 1) := by decide +kernel
theorem dX7_versionTimestamp_18 : decode cX7_versionTimestamp 18 = .ok (.aload_n 0, 1) := by decide +kernel
theorem dX7_versionTimestamp_19 : decode cX7_versionTimestamp 19 = .ok (.iload_n 3, 1) := by decide +kernel
theorem dX7_versionTimestamp_20 : decode cX7_versionTimestamp 20 = .ok (.iconst (-1), 1) := by decide +kernel
theorem dX7_versionTimestamp_21 : decode cX7_versionTimestamp 21 = .ok (.if_icmp .ne 7, 3) := by decide +kernel
theorem dX7_versionTimestamp_24 : decode cX7_versionTimestamp 24 = .ok (.iconst 1, 1) := by decide +kernel
theorem dX7_versionTimestamp_25 : decode cX7_versionTimestamp 25 = .ok (.goto 4, 3) := by decide +kernel
theorem dX7_versionTimestamp_28 : decode cX7_versionTimestamp 28 = .ok (.iconst 0, 1) := by decide +kernel
theorem dX7_versionTimestamp_29 : decode cX7_versionTimestamp 29 = .ok (.invokevirtual 136, 3) := by decide +kernel
theorem dX7_versionTimestamp_32 : decode cX7_versionTimestamp 32 = .ok (.ifCond .eq 7, 3) := by decide +kernel
theorem dX7_versionTimestamp_35 : decode cX7_versionTimestamp 35 = .ok (.iconst 0, 1) := by decide +kernel
theorem dX7_versionTimestamp_36 : decode cX7_versionTimestamp 36 = .ok (.goto 4, 3) := by decide +kernel
theorem dX7_versionTimestamp_39 : decode cX7_versionTimestamp 39 = .ok (.iload_n 3, 1) := by decide +kernel
theorem dX7_versionTimestamp_40 : decode cX7_versionTimestamp 40 = .ok (.ireturn, 1) := by decide +kernel
theorem dX7_throwsForValue_0 : decode cX7_throwsForValue 0 = .ok (.aload_n 0, 1) := by decide +kernel
theorem dX7_throwsForValue_1 : decode cX7_throwsForValue 1 = .ok (.iload_n 1, 1) := by decide +kernel
theorem dX7_throwsForValue_2 : decode cX7_throwsForValue 2 = .ok (.invokestatic 108, 3) := by decide +kernel
theorem dX7_throwsForValue_5 : decode cX7_throwsForValue 5 = .ok (.ifCond .ne 7, 3) := by decide +kernel
theorem dX7_throwsForValue_8 : decode cX7_throwsForValue 8 = .ok (.iconst 1, 1) := by decide +kernel
theorem dX7_throwsForValue_9 : decode cX7_throwsForValue 9 = .ok (.goto 12, 3) := by decide +kernel
theorem dX7_throwsForValue_12 : decode cX7_throwsForValue 12 = .ok (.iload_n 2, 1) := by decide +kernel
theorem dX7_throwsForValue_13 : decode cX7_throwsForValue 13 = .ok (.ifCond .ge 7, 3) := by decide +kernel
theorem dX7_throwsForValue_16 : decode cX7_throwsForValue 16 = .ok (.iconst 2, 1) := by decide +kernel
theorem dX7_throwsForValue_17 : decode cX7_throwsForValue 17 = .ok (.goto 4, 3) := by decide +kernel
theorem dX7_throwsForValue_20 : decode cX7_throwsForValue 20 = .ok (.iconst 0, 1) := by decide +kernel
theorem dX7_throwsForValue_21 : decode cX7_throwsForValue 21 = .ok (.invokevirtual 136, 3) := by decide +kernel
theorem dX7_throwsForValue_24 : decode cX7_throwsForValue 24 = .ok (.ireturn, 1) := by decide +kernel
theorem dX7_valueAt_0 : decode cX7_valueAt 0 = .ok (.aload_n 0, 1) := by decide +kernel
theorem dX7_valueAt_1 : decode cX7_valueAt 1 = .ok (.iload_n 1, 1) := by decide +kernel
theorem dX7_valueAt_2 : decode cX7_valueAt 2 = .ok (.iload_n 2, 1) := by decide +kernel
theorem dX7_valueAt_3 : decode cX7_valueAt 3 = .ok (.invokevirtual 232, 3) := by decide +kernel
theorem dX7_valueAt_6 : decode cX7_valueAt 6 = .ok (.ifCond .eq 7, 3) := by decide +kernel
theorem dX7_valueAt_9 : decode cX7_valueAt 9 = .ok (.iconst 0, 1) := by decide +kernel
theorem dX7_valueAt_10 : decode cX7_valueAt 10 = .ok (.goto 9, 3) := by decide +kernel
theorem dX7_valueAt_13 : decode cX7_valueAt 13 = .ok (.aload_n 0, 1) := by decide +kernel
theorem dX7_valueAt_14 : decode cX7_valueAt 14 = .ok (.iload_n 1, 1) := by decide +kernel
theorem dX7_valueAt_15 : decode cX7_valueAt 15 = .ok (.iload_n 2, 1) := by decide +kernel
theorem dX7_valueAt_16 : decode cX7_valueAt 16 = .ok (.invokevirtual 119, 3) := by decide +kernel
theorem dX7_valueAt_19 : decode cX7_valueAt 19 = .ok (.ireturn, 1) := by decide +kernel
theorem dX7_nextApplied_0 : decode cX7_nextApplied 0 = .ok (.iconst (-1), 1) := by decide +kernel
theorem dX7_nextApplied_1 : decode cX7_nextApplied 1 = .ok (.istore_n 2, 1) := by decide +kernel
theorem dX7_nextApplied_2 : decode cX7_nextApplied 2 = .ok (.iconst 0, 1) := by decide +kernel
theorem dX7_nextApplied_3 : decode cX7_nextApplied 3 = .ok (.istore_n 3, 1) := by decide +kernel
theorem dX7_nextApplied_4 : decode cX7_nextApplied 4 = .ok (.iload_n 3, 1) := by decide +kernel
theorem dX7_nextApplied_5 : decode cX7_nextApplied 5 = .ok (.aload_n 0, 1) := by decide +kernel
theorem dX7_nextApplied_6 : decode cX7_nextApplied 6 = .ok (.getfield 7, 3) := by decide +kernel
theorem dX7_nextApplied_9 : decode cX7_nextApplied 9 = .ok (.iconst 3, 1) := by decide +kernel
theorem dX7_nextApplied_10 : decode cX7_nextApplied 10 = .ok (.iaload, 1) := by decide +kernel
theorem dX7_nextApplied_11 : decode cX7_nextApplied 11 = .ok (.if_icmp .ge 92, 3) := by decide +kernel
theorem dX7_nextApplied_14 : decode cX7_nextApplied 14 = .ok (.iload_n 1, 1) := by decide +kernel
theorem dX7_nextApplied_15 : decode cX7_nextApplied 15 = .ok (.iconst (-1), 1) := by decide +kernel
theorem dX7_nextApplied_16 : decode cX7_nextApplied 16 = .ok (.if_icmp .ne 7, 3) := by decide +kernel
theorem dX7_nextApplied_19 : decode cX7_nextApplied 19 = .ok (.iconst 1, 1) := by decide +kernel
theorem dX7_nextApplied_20 : decode cX7_nextApplied 20 = .ok (.goto 16, 3) := by decide +kernel
theorem dX7_nextApplied_23 : decode cX7_nextApplied 23 = .ok (.aload_n 0, 1) := by decide +kernel
theorem dX7_nextApplied_24 : decode cX7_nextApplied 24 = .ok (.iload_n 3, 1) := by decide +kernel
theorem dX7_nextApplied_25 : decode cX7_nextApplied 25 = .ok (.iconst 2, 1) := by decide +kernel
theorem dX7_nextApplied_26 : decode cX7_nextApplied 26 = .ok (.invokevirtual 61, 3) := by decide +kernel
theorem dX7_nextApplied_29 : decode cX7_nextApplied 29 = .ok (.aload_n 0, 1) := by decide +kernel
theorem dX7_nextApplied_30 : decode cX7_nextApplied 30 = .ok (.iload_n 1, 1) := by decide +kernel
theorem dX7_nextApplied_31 : decode cX7_nextApplied 31 = .ok (.iconst 2, 1) := by decide +kernel
theorem dX7_nextApplied_32 : decode cX7_nextApplied 32 = .ok (.invokevirtual 61, 3) := by decide +kernel
theorem dX7_nextApplied_35 : decode cX7_nextApplied 35 = .ok (.isub, 1) := by decide +kernel
theorem dX7_nextApplied_36 : decode cX7_nextApplied 36 = .ok (.istore 4, 2) := by decide +kernel
theorem dX7_nextApplied_38 : decode cX7_nextApplied 38 = .ok (.iload 4, 2) := by decide +kernel
theorem dX7_nextApplied_40 : decode cX7_nextApplied 40 = .ok (.ifCond .gt 13, 3) := by decide +kernel
theorem dX7_nextApplied_43 : decode cX7_nextApplied 43 = .ok (.iload 4, 2) := by decide +kernel
theorem dX7_nextApplied_45 : decode cX7_nextApplied 45 = .ok (.ifCond .ne 12, 3) := by decide +kernel
theorem dX7_nextApplied_48 : decode cX7_nextApplied 48 = .ok (.iload_n 3, 1) := by decide +kernel
theorem dX7_nextApplied_49 : decode cX7_nextApplied 49 = .ok (.iload_n 1, 1) := by decide +kernel
theorem dX7_nextApplied_50 : decode cX7_nextApplied 50 = .ok (.if_icmp .le 7, 3) := by decide +kernel
theorem dX7_nextApplied_53 : decode cX7_nextApplied 53 = .ok (.iconst 1, 1) := by decide +kernel
theorem dX7_nextApplied_54 : decode cX7_nextApplied 54 = .ok (.goto 4, 3) := by decide +kernel
theorem dX7_nextApplied_57 : decode cX7_nextApplied 57 = .ok (.iconst 0, 1) := by decide +kernel
theorem dX7_nextApplied_58 : decode cX7_nextApplied 58 = .ok (.istore 5, 2) := by decide +kernel
theorem dX7_nextApplied_60 : decode cX7_nextApplied 60 = .ok (.aload_n 0, 1) := by decide +kernel
theorem dX7_nextApplied_61 : decode cX7_nextApplied 61 = .ok (.iload_n 3, 1) := by decide +kernel
theorem dX7_nextApplied_62 : decode cX7_nextApplied 62 = .ok (.iconst 1, 1) := by decide +kernel
theorem dX7_nextApplied_63 : decode cX7_nextApplied 63 = .ok (.invokevirtual 61, 3) := by decide +kernel
theorem dX7_nextApplied_66 : decode cX7_nextApplied 66 = .ok (.iconst 2, 1) := by decide +kernel
theorem dX7_nextApplied_67 : decode cX7_nextApplied 67 = .ok (.if_icmp .ne 30, 3) := by decide +kernel
theorem dX7_nextApplied_70 : decode cX7_nextApplied 70 = .ok (.iload 5, 2) := by decide +kernel
theorem dX7_nextApplied_72 : decode cX7_nextApplied 72 = .ok (.ifCond .eq 25, 3) := by decide +kernel
theorem dX7_nextApplied_75 : decode cX7_nextApplied 75 = .ok (.iload_n 2, 1) := by decide +kernel
theorem dX7_nextApplied_76 : decode cX7_nextApplied 76 = .ok (.iconst (-1), 1) := by decide +kernel
theorem dX7_nextApplied_77 : decode cX7_nextApplied 77 = .ok (.if_icmp .eq 18, 3) := by decide +kernel
theorem dX7_nextApplied_80 : decode cX7_nextApplied 80 = .ok (.aload_n 0, 1) := by decide +kernel
theorem dX7_nextApplied_81 : decode cX7_nextApplied 81 = .ok (.iload_n 3, 1) := by decide +kernel
theorem dX7_nextApplied_82 : decode cX7_nextApplied 82 = .ok (.iconst 2, 1) := by decide +kernel
theorem dX7_nextApplied_83 : decode cX7_nextApplied 83 = .ok (.invokevirtual 61, 3) := by decide +kernel
theorem dX7_nextApplied_86 : decode cX7_nextApplied 86 = .ok (.aload_n 0, 1) := by decide +kernel
theorem dX7_nextApplied_87 : decode cX7_nextApplied 87 = .ok (.iload_n 2, 1) := by decide +kernel
theorem dX7_nextApplied_88 : decode cX7_nextApplied 88 = .ok (.iconst 2, 1) := by decide +kernel
theorem dX7_nextApplied_89 : decode cX7_nextApplied 89 = .ok (.invokevirtual 61, 3) := by decide +kernel
theorem dX7_nextApplied_92 : decode cX7_nextApplied 92 = .ok (.if_icmp .ge 5, 3) := by decide +kernel
theorem dX7_nextApplied_95 : decode cX7_nextApplied 95 = .ok (.iload_n 3, 1) := by decide +kernel
theorem dX7_nextApplied_96 : decode cX7_nextApplied 96 = .ok (.istore_n 2, 1) := by decide +kernel
theorem dX7_nextApplied_97 : decode cX7_nextApplied 97 = .ok (.iinc 3 1, 3) := by decide +kernel
theorem dX7_nextApplied_100 : decode cX7_nextApplied 100 = .ok (.goto (-96), 3) := by decide +kernel
theorem dX7_nextApplied_103 : decode cX7_nextApplied 103 = .ok (.iload_n 2, 1) := by decide +kernel
theorem dX7_nextApplied_104 : decode cX7_nextApplied 104 = .ok (.ireturn, 1) := by decide +kernel
theorem dX7_replayedValueAt_0 : decode cX7_replayedValueAt 0 = .ok (.aload_n 0, 1) := by decide +kernel
theorem dX7_replayedValueAt_1 : decode cX7_replayedValueAt 1 = .ok (.iload_n 1, 1) := by decide +kernel
theorem dX7_replayedValueAt_2 : decode cX7_replayedValueAt 2 = .ok (.iload_n 2, 1) := by decide +kernel
theorem dX7_replayedValueAt_3 : decode cX7_replayedValueAt 3 = .ok (.invokevirtual 232, 3) := by decide +kernel
theorem dX7_replayedValueAt_6 : decode cX7_replayedValueAt 6 = .ok (.ifCond .eq 5, 3) := by decide +kernel
theorem dX7_replayedValueAt_9 : decode cX7_replayedValueAt 9 = .ok (.iconst 0, 1) := by decide +kernel
theorem dX7_replayedValueAt_10 : decode cX7_replayedValueAt 10 = .ok (.ireturn, 1) := by decide +kernel
theorem dX7_replayedValueAt_11 : decode cX7_replayedValueAt 11 = .ok (.iconst 0, 1) := by decide +kernel
theorem dX7_replayedValueAt_12 : decode cX7_replayedValueAt 12 = .ok (.istore_n 3, 1) := by decide +kernel
theorem dX7_replayedValueAt_13 : decode cX7_replayedValueAt 13 = .ok (.aload_n 0, 1) := by decide +kernel
theorem dX7_replayedValueAt_14 : decode cX7_replayedValueAt 14 = .ok (.iconst (-1), 1) := by decide +kernel
theorem dX7_replayedValueAt_15 : decode cX7_replayedValueAt 15 = .ok (.invokevirtual 235, 3) := by decide +kernel
theorem dX7_replayedValueAt_18 : decode cX7_replayedValueAt 18 = .ok (.istore 4, 2) := by decide +kernel
theorem dX7_replayedValueAt_20 : decode cX7_replayedValueAt 20 = .ok (.iload 4, 2) := by decide +kernel
theorem dX7_replayedValueAt_22 : decode cX7_replayedValueAt 22 = .ok (.iconst (-1), 1) := by decide +kernel
theorem dX7_replayedValueAt_23 : decode cX7_replayedValueAt 23 = .ok (.if_icmp .eq 49, 3) := by decide +kernel
theorem dX7_replayedValueAt_26 : decode cX7_replayedValueAt 26 = .ok (.aload_n 0, 1) := by decide +kernel
theorem dX7_replayedValueAt_27 : decode cX7_replayedValueAt 27 = .ok (.iload 4, 2) := by decide +kernel
theorem dX7_replayedValueAt_29 : decode cX7_replayedValueAt 29 = .ok (.iconst 2, 1) := by decide +kernel
theorem dX7_replayedValueAt_30 : decode cX7_replayedValueAt 30 = .ok (.invokevirtual 61, 3) := by decide +kernel
theorem dX7_replayedValueAt_33 : decode cX7_replayedValueAt 33 = .ok (.iload_n 2, 1) := by decide +kernel
theorem dX7_replayedValueAt_34 : decode cX7_replayedValueAt 34 = .ok (.if_icmp .gt 38, 3) := by decide +kernel
theorem dX7_replayedValueAt_37 : decode cX7_replayedValueAt 37 = .ok (.aload_n 0, 1) := by decide +kernel
theorem dX7_replayedValueAt_38 : decode cX7_replayedValueAt 38 = .ok (.iload 4, 2) := by decide +kernel
theorem dX7_replayedValueAt_40 : decode cX7_replayedValueAt 40 = .ok (.iload_n 1, 1) := by decide +kernel
theorem dX7_replayedValueAt_41 : decode cX7_replayedValueAt 41 = .ok (.invokevirtual 64, 3) := by decide +kernel
theorem dX7_replayedValueAt_44 : decode cX7_replayedValueAt 44 = .ok (.ifCond .eq 15, 3) := by decide +kernel
theorem dX7_replayedValueAt_47 : decode cX7_replayedValueAt 47 = .ok (.aload_n 0, 1) := by decide +kernel
theorem dX7_replayedValueAt_48 : decode cX7_replayedValueAt 48 = .ok (.iload 4, 2) := by decide +kernel
theorem dX7_replayedValueAt_50 : decode cX7_replayedValueAt 50 = .ok (.iconst 5, 1) := by decide +kernel
theorem dX7_replayedValueAt_51 : decode cX7_replayedValueAt 51 = .ok (.iload_n 1, 1) := by decide +kernel
theorem dX7_replayedValueAt_52 : decode cX7_replayedValueAt 52 = .ok (.iadd, 1) := by decide +kernel
theorem dX7_replayedValueAt_53 : decode cX7_replayedValueAt 53 = .ok (.invokevirtual 61, 3) := by decide +kernel
theorem dX7_replayedValueAt_56 : decode cX7_replayedValueAt 56 = .ok (.goto 4, 3) := by decide +kernel
theorem dX7_replayedValueAt_59 : decode cX7_replayedValueAt 59 = .ok (.iload_n 3, 1) := by decide +kernel
theorem dX7_replayedValueAt_60 : decode cX7_replayedValueAt 60 = .ok (.istore_n 3, 1) := by decide +kernel
theorem dX7_replayedValueAt_61 : decode cX7_replayedValueAt 61 = .ok (.aload_n 0, 1) := by decide +kernel
theorem dX7_replayedValueAt_62 : decode cX7_replayedValueAt 62 = .ok (.iload 4, 2) := by decide +kernel
theorem dX7_replayedValueAt_64 : decode cX7_replayedValueAt 64 = .ok (.invokevirtual 235, 3) := by decide +kernel
theorem dX7_replayedValueAt_67 : decode cX7_replayedValueAt 67 = .ok (.istore 4, 2) := by decide +kernel
theorem dX7_replayedValueAt_69 : decode cX7_replayedValueAt 69 = .ok (.goto (-49), 3) := by decide +kernel
theorem dX7_replayedValueAt_72 : decode cX7_replayedValueAt 72 = .ok (.iload_n 3, 1) := by decide +kernel
theorem dX7_replayedValueAt_73 : decode cX7_replayedValueAt 73 = .ok (.ireturn, 1) := by decide +kernel
theorem dX7_waitingWriter_0 : decode cX7_waitingWriter 0 = .ok (.aload_n 0, 1) := by decide +kernel
theorem dX7_waitingWriter_1 : decode cX7_waitingWriter 1 = .ok (.iload_n 1, 1) := by decide +kernel
theorem dX7_waitingWriter_2 : decode cX7_waitingWriter 2 = .ok (.invokestatic 108, 3) := by decide +kernel
theorem dX7_waitingWriter_5 : decode cX7_waitingWriter 5 = .ok (.ifCond .eq 7, 3) := by decide +kernel
theorem dX7_waitingWriter_8 : decode cX7_waitingWriter 8 = .ok (.iconst 0, 1) := by decide +kernel
theorem dX7_waitingWriter_9 : decode cX7_waitingWriter 9 = .ok (.goto 4, 3) := by decide +kernel
theorem dX7_waitingWriter_12 : decode cX7_waitingWriter 12 = .ok (.iconst 1, 1) := by decide +kernel
theorem dX7_waitingWriter_13 : decode cX7_waitingWriter 13 = .ok (.invokevirtual 136, 3) := by decide +kernel
theorem dX7_waitingWriter_16 : decode cX7_waitingWriter 16 = .ok (.ifCond .eq 5, 3) := by decide +kernel
theorem dX7_waitingWriter_19 : decode cX7_waitingWriter 19 = .ok (.iconst 0, 1) := by decide +kernel
theorem dX7_waitingWriter_20 : decode cX7_waitingWriter 20 = .ok (.ireturn, 1) := by decide +kernel
theorem dX7_waitingWriter_21 : decode cX7_waitingWriter 21 = .ok (.iconst 0, 1) := by decide +kernel
theorem dX7_waitingWriter_22 : decode cX7_waitingWriter 22 = .ok (.istore_n 2, 1) := by decide +kernel
theorem dX7_waitingWriter_23 : decode cX7_waitingWriter 23 = .ok (.iload_n 2, 1) := by decide +kernel
theorem dX7_waitingWriter_24 : decode cX7_waitingWriter 24 = .ok (.aload_n 0, 1) := by decide +kernel
theorem dX7_waitingWriter_25 : decode cX7_waitingWriter 25 = .ok (.getfield 7, 3) := by decide +kernel
theorem dX7_waitingWriter_28 : decode cX7_waitingWriter 28 = .ok (.iconst 3, 1) := by decide +kernel
theorem dX7_waitingWriter_29 : decode cX7_waitingWriter 29 = .ok (.iaload, 1) := by decide +kernel
theorem dX7_waitingWriter_30 : decode cX7_waitingWriter 30 = .ok (.if_icmp .ge 30, 3) := by decide +kernel
theorem dX7_waitingWriter_33 : decode cX7_waitingWriter 33 = .ok (.aload_n 0, 1) := by decide +kernel
theorem dX7_waitingWriter_34 : decode cX7_waitingWriter 34 = .ok (.iload_n 2, 1) := by decide +kernel
theorem dX7_waitingWriter_35 : decode cX7_waitingWriter 35 = .ok (.iconst 1, 1) := by decide +kernel
theorem dX7_waitingWriter_36 : decode cX7_waitingWriter 36 = .ok (.invokevirtual 61, 3) := by decide +kernel
theorem dX7_waitingWriter_39 : decode cX7_waitingWriter 39 = .ok (.iconst 1, 1) := by decide +kernel
theorem dX7_waitingWriter_40 : decode cX7_waitingWriter 40 = .ok (.if_icmp .ne 14, 3) := by decide +kernel
theorem dX7_waitingWriter_43 : decode cX7_waitingWriter 43 = .ok (.aload_n 0, 1) := by decide +kernel
theorem dX7_waitingWriter_44 : decode cX7_waitingWriter 44 = .ok (.iload_n 2, 1) := by decide +kernel
theorem dX7_waitingWriter_45 : decode cX7_waitingWriter 45 = .ok (.iload_n 1, 1) := by decide +kernel
theorem dX7_waitingWriter_46 : decode cX7_waitingWriter 46 = .ok (.invokevirtual 64, 3) := by decide +kernel
theorem dX7_waitingWriter_49 : decode cX7_waitingWriter 49 = .ok (.ifCond .eq 5, 3) := by decide +kernel
theorem dX7_waitingWriter_52 : decode cX7_waitingWriter 52 = .ok (.iload_n 2, 1) := by decide +kernel
theorem dX7_waitingWriter_53 : decode cX7_waitingWriter 53 = .ok (.ireturn, 1) := by decide +kernel
theorem dX7_waitingWriter_54 : decode cX7_waitingWriter 54 = .ok (.iinc 2 1, 3) := by decide +kernel
theorem dX7_waitingWriter_57 : decode cX7_waitingWriter 57 = .ok (.goto (-34), 3) := by decide +kernel
theorem dX7_waitingWriter_60 : decode cX7_waitingWriter 60 = .ok (.iconst (-1), 1) := by decide +kernel
theorem dX7_waitingWriter_61 : decode cX7_waitingWriter 61 = .ok (.ireturn, 1) := by decide +kernel
theorem dX7_readerMark_0 : decode cX7_readerMark 0 = .ok (.aload_n 0, 1) := by decide +kernel
theorem dX7_readerMark_1 : decode cX7_readerMark 1 = .ok (.iload_n 1, 1) := by decide +kernel
theorem dX7_readerMark_2 : decode cX7_readerMark 2 = .ok (.invokestatic 108, 3) := by decide +kernel
theorem dX7_readerMark_5 : decode cX7_readerMark 5 = .ok (.ifCond .eq 7, 3) := by decide +kernel
theorem dX7_readerMark_8 : decode cX7_readerMark 8 = .ok (.iconst 0, 1) := by decide +kernel
theorem dX7_readerMark_9 : decode cX7_readerMark 9 = .ok (.goto 4, 3) := by decide +kernel
theorem dX7_readerMark_12 : decode cX7_readerMark 12 = .ok (.iconst 1, 1) := by decide +kernel
theorem dX7_readerMark_13 : decode cX7_readerMark 13 = .ok (.invokevirtual 136, 3) := by decide +kernel
theorem dX7_readerMark_16 : decode cX7_readerMark 16 = .ok (.ifCond .eq 7, 3) := by decide +kernel
theorem dX7_readerMark_19 : decode cX7_readerMark 19 = .ok (.iconst 0, 1) := by decide +kernel
theorem dX7_readerMark_20 : decode cX7_readerMark 20 = .ok (.goto 8, 3) := by decide +kernel
theorem dX7_readerMark_23 : decode cX7_readerMark 23 = .ok (.aload_n 0, 1) := by decide +kernel
theorem dX7_readerMark_24 : decode cX7_readerMark 24 = .ok (.iload_n 1, 1) := by decide +kernel
theorem dX7_readerMark_25 : decode cX7_readerMark 25 = .ok (.invokevirtual 89, 3) := by decide +kernel
theorem dX7_readerMark_28 : decode cX7_readerMark 28 = .ok (.ireturn, 1) := by decide +kernel
theorem dX7_safeTime_0 : decode cX7_safeTime 0 = .ok (.aload_n 0, 1) := by decide +kernel
theorem dX7_safeTime_1 : decode cX7_safeTime 1 = .ok (.iconst 0, 1) := by decide +kernel
theorem dX7_safeTime_2 : decode cX7_safeTime 2 = .ok (.putfield 26, 3) := by decide +kernel
theorem dX7_safeTime_5 : decode cX7_safeTime 5 = .ok (.aload_n 0, 1) := by decide +kernel
theorem dX7_safeTime_6 : decode cX7_safeTime 6 = .ok (.invokevirtual 179, 3) := by decide +kernel
theorem dX7_safeTime_9 : decode cX7_safeTime 9 = .ok (.ireturn, 1) := by decide +kernel
theorem dX7_readFloor_0 : decode cX7_readFloor 0 = .ok (.aload_n 0, 1) := by decide +kernel
theorem dX7_readFloor_1 : decode cX7_readFloor 1 = .ok (.iconst 0, 1) := by decide +kernel
theorem dX7_readFloor_2 : decode cX7_readFloor 2 = .ok (.putfield 26, 3) := by decide +kernel
theorem dX7_readFloor_5 : decode cX7_readFloor 5 = .ok (.aload_n 0, 1) := by decide +kernel
theorem dX7_readFloor_6 : decode cX7_readFloor 6 = .ok (.getfield 7, 3) := by decide +kernel
theorem dX7_readFloor_9 : decode cX7_readFloor 9 = .ok (.iconst 1, 1) := by decide +kernel
theorem dX7_readFloor_10 : decode cX7_readFloor 10 = .ok (.iaload, 1) := by decide +kernel
theorem dX7_readFloor_11 : decode cX7_readFloor 11 = .ok (.ireturn, 1) := by decide +kernel
theorem dX7_ticksOfServers_0 : decode cX7_ticksOfServers 0 = .ok (.iload_n 2, 1) := by decide +kernel
theorem dX7_ticksOfServers_1 : decode cX7_ticksOfServers 1 = .ok (.istore_n 3, 1) := by decide +kernel
theorem dX7_ticksOfServers_2 : decode cX7_ticksOfServers 2 = .ok (.iload_n 3, 1) := by decide +kernel
theorem dX7_ticksOfServers_3 : decode cX7_ticksOfServers 3 = .ok (.sipush 10000, 3) := by decide +kernel
theorem dX7_ticksOfServers_6 : decode cX7_ticksOfServers 6 = .ok (.if_icmp .gt 27, 3) := by decide +kernel
theorem dX7_ticksOfServers_9 : decode cX7_ticksOfServers 9 = .ok (.iload_n 1, 1) := by decide +kernel
theorem dX7_ticksOfServers_10 : decode cX7_ticksOfServers 10 = .ok (.aload_n 0, 1) := by decide +kernel
theorem dX7_ticksOfServers_11 : decode cX7_ticksOfServers 11 = .ok (.aload_n 0, 1) := by decide +kernel
theorem dX7_ticksOfServers_12 : decode cX7_ticksOfServers 12 = .ok (.getfield 7, 3) := by decide +kernel
theorem dX7_ticksOfServers_15 : decode cX7_ticksOfServers 15 = .ok (.iconst 0, 1) := by decide +kernel
theorem dX7_ticksOfServers_16 : decode cX7_ticksOfServers 16 = .ok (.iaload, 1) := by decide +kernel
theorem dX7_ticksOfServers_17 : decode cX7_ticksOfServers 17 = .ok (.iload_n 3, 1) := by decide +kernel
theorem dX7_ticksOfServers_18 : decode cX7_ticksOfServers 18 = .ok (.iadd, 1) := by decide +kernel
theorem dX7_ticksOfServers_19 : decode cX7_ticksOfServers 19 = .ok (.invokevirtual 176, 3) := by decide +kernel
theorem dX7_ticksOfServers_22 : decode cX7_ticksOfServers 22 = .ok (.if_icmp .gt 5, 3) := by decide +kernel
theorem dX7_ticksOfServers_25 : decode cX7_ticksOfServers 25 = .ok (.iload_n 3, 1) := by decide +kernel
theorem dX7_ticksOfServers_26 : decode cX7_ticksOfServers 26 = .ok (.ireturn, 1) := by decide +kernel
theorem dX7_ticksOfServers_27 : decode cX7_ticksOfServers 27 = .ok (.iinc 3 1, 3) := by decide +kernel
theorem dX7_ticksOfServers_30 : decode cX7_ticksOfServers 30 = .ok (.goto (-28), 3) := by decide +kernel
theorem dX7_ticksOfServers_33 : decode cX7_ticksOfServers 33 = .ok (.iconst (-1), 1) := by decide +kernel
theorem dX7_ticksOfServers_34 : decode cX7_ticksOfServers 34 = .ok (.ireturn, 1) := by decide +kernel
theorem dX7_ticksOfWaiting_0 : decode cX7_ticksOfWaiting 0 = .ok (.iconst 0, 1) := by decide +kernel
theorem dX7_ticksOfWaiting_1 : decode cX7_ticksOfWaiting 1 = .ok (.istore_n 2, 1) := by decide +kernel
theorem dX7_ticksOfWaiting_2 : decode cX7_ticksOfWaiting 2 = .ok (.iconst 0, 1) := by decide +kernel
theorem dX7_ticksOfWaiting_3 : decode cX7_ticksOfWaiting 3 = .ok (.istore_n 3, 1) := by decide +kernel
theorem dX7_ticksOfWaiting_4 : decode cX7_ticksOfWaiting 4 = .ok (.iload_n 3, 1) := by decide +kernel
theorem dX7_ticksOfWaiting_5 : decode cX7_ticksOfWaiting 5 = .ok (.aload_n 0, 1) := by decide +kernel
theorem dX7_ticksOfWaiting_6 : decode cX7_ticksOfWaiting 6 = .ok (.getfield 7, 3) := by decide +kernel
theorem dX7_ticksOfWaiting_9 : decode cX7_ticksOfWaiting 9 = .ok (.iconst 3, 1) := by decide +kernel
theorem dX7_ticksOfWaiting_10 : decode cX7_ticksOfWaiting 10 = .ok (.iaload, 1) := by decide +kernel
theorem dX7_ticksOfWaiting_11 : decode cX7_ticksOfWaiting 11 = .ok (.if_icmp .ge 83, 3) := by decide +kernel
theorem dX7_ticksOfWaiting_14 : decode cX7_ticksOfWaiting 14 = .ok (.aload_n 0, 1) := by decide +kernel
theorem dX7_ticksOfWaiting_15 : decode cX7_ticksOfWaiting 15 = .ok (.iload_n 3, 1) := by decide +kernel
theorem dX7_ticksOfWaiting_16 : decode cX7_ticksOfWaiting 16 = .ok (.iconst 1, 1) := by decide +kernel
theorem dX7_ticksOfWaiting_17 : decode cX7_ticksOfWaiting 17 = .ok (.invokevirtual 61, 3) := by decide +kernel
theorem dX7_ticksOfWaiting_20 : decode cX7_ticksOfWaiting 20 = .ok (.iconst 1, 1) := by decide +kernel
theorem dX7_ticksOfWaiting_21 : decode cX7_ticksOfWaiting 21 = .ok (.if_icmp .ne 67, 3) := by decide +kernel
theorem dX7_ticksOfWaiting_24 : decode cX7_ticksOfWaiting 24 = .ok (.aload_n 0, 1) := by decide +kernel
theorem dX7_ticksOfWaiting_25 : decode cX7_ticksOfWaiting 25 = .ok (.iload_n 3, 1) := by decide +kernel
theorem dX7_ticksOfWaiting_26 : decode cX7_ticksOfWaiting 26 = .ok (.iconst 2, 1) := by decide +kernel
theorem dX7_ticksOfWaiting_27 : decode cX7_ticksOfWaiting 27 = .ok (.invokevirtual 61, 3) := by decide +kernel
theorem dX7_ticksOfWaiting_30 : decode cX7_ticksOfWaiting 30 = .ok (.iconst 1, 1) := by decide +kernel
theorem dX7_ticksOfWaiting_31 : decode cX7_ticksOfWaiting 31 = .ok (.isub, 1) := by decide +kernel
theorem dX7_ticksOfWaiting_32 : decode cX7_ticksOfWaiting 32 = .ok (.iload_n 1, 1) := by decide +kernel
theorem dX7_ticksOfWaiting_33 : decode cX7_ticksOfWaiting 33 = .ok (.if_icmp .ge 55, 3) := by decide +kernel
theorem dX7_ticksOfWaiting_36 : decode cX7_ticksOfWaiting 36 = .ok (.iconst 1, 1) := by decide +kernel
theorem dX7_ticksOfWaiting_37 : decode cX7_ticksOfWaiting 37 = .ok (.istore 4, 2) := by decide +kernel
theorem dX7_ticksOfWaiting_39 : decode cX7_ticksOfWaiting 39 = .ok (.iload 4, 2) := by decide +kernel
theorem dX7_ticksOfWaiting_41 : decode cX7_ticksOfWaiting 41 = .ok (.sipush 10000, 3) := by decide +kernel
theorem dX7_ticksOfWaiting_44 : decode cX7_ticksOfWaiting 44 = .ok (.if_icmp .gt 37, 3) := by decide +kernel
theorem dX7_ticksOfWaiting_47 : decode cX7_ticksOfWaiting 47 = .ok (.aload_n 0, 1) := by decide +kernel
theorem dX7_ticksOfWaiting_48 : decode cX7_ticksOfWaiting 48 = .ok (.iload_n 3, 1) := by decide +kernel
theorem dX7_ticksOfWaiting_49 : decode cX7_ticksOfWaiting 49 = .ok (.iconst 2, 1) := by decide +kernel
theorem dX7_ticksOfWaiting_50 : decode cX7_ticksOfWaiting 50 = .ok (.invokevirtual 61, 3) := by decide +kernel
theorem dX7_ticksOfWaiting_53 : decode cX7_ticksOfWaiting 53 = .ok (.aload_n 0, 1) := by decide +kernel
theorem dX7_ticksOfWaiting_54 : decode cX7_ticksOfWaiting 54 = .ok (.aload_n 0, 1) := by decide +kernel
theorem dX7_ticksOfWaiting_55 : decode cX7_ticksOfWaiting 55 = .ok (.iload_n 3, 1) := by decide +kernel
theorem dX7_ticksOfWaiting_56 : decode cX7_ticksOfWaiting 56 = .ok (.iconst 0, 1) := by decide +kernel
theorem dX7_ticksOfWaiting_57 : decode cX7_ticksOfWaiting 57 = .ok (.invokevirtual 61, 3) := by decide +kernel
theorem dX7_ticksOfWaiting_60 : decode cX7_ticksOfWaiting 60 = .ok (.aload_n 0, 1) := by decide +kernel
theorem dX7_ticksOfWaiting_61 : decode cX7_ticksOfWaiting 61 = .ok (.getfield 7, 3) := by decide +kernel
theorem dX7_ticksOfWaiting_64 : decode cX7_ticksOfWaiting 64 = .ok (.iconst 0, 1) := by decide +kernel
theorem dX7_ticksOfWaiting_65 : decode cX7_ticksOfWaiting 65 = .ok (.iaload, 1) := by decide +kernel
theorem dX7_ticksOfWaiting_66 : decode cX7_ticksOfWaiting 66 = .ok (.iload 4, 2) := by decide +kernel
theorem dX7_ticksOfWaiting_68 : decode cX7_ticksOfWaiting 68 = .ok (.iadd, 1) := by decide +kernel
theorem dX7_ticksOfWaiting_69 : decode cX7_ticksOfWaiting 69 = .ok (.invokevirtual 51, 3) := by decide +kernel
theorem dX7_ticksOfWaiting_72 : decode cX7_ticksOfWaiting 72 = .ok (.if_icmp .lt 9, 3) := by decide +kernel
theorem dX7_ticksOfWaiting_75 : decode cX7_ticksOfWaiting 75 = .ok (.iinc 4 1, 3) := by decide +kernel
theorem dX7_ticksOfWaiting_78 : decode cX7_ticksOfWaiting 78 = .ok (.goto (-39), 3) := by decide +kernel
theorem dX7_ticksOfWaiting_81 : decode cX7_ticksOfWaiting 81 = .ok (.iload_n 2, 1) := by decide +kernel
theorem dX7_ticksOfWaiting_82 : decode cX7_ticksOfWaiting 82 = .ok (.iload 4, 2) := by decide +kernel
theorem dX7_ticksOfWaiting_84 : decode cX7_ticksOfWaiting 84 = .ok (.invokestatic 77, 3) := by decide +kernel
theorem dX7_ticksOfWaiting_87 : decode cX7_ticksOfWaiting 87 = .ok (.istore_n 2, 1) := by decide +kernel
theorem dX7_ticksOfWaiting_88 : decode cX7_ticksOfWaiting 88 = .ok (.iinc 3 1, 3) := by decide +kernel
theorem dX7_ticksOfWaiting_91 : decode cX7_ticksOfWaiting 91 = .ok (.goto (-87), 3) := by decide +kernel
theorem dX7_ticksOfWaiting_94 : decode cX7_ticksOfWaiting 94 = .ok (.iload_n 2, 1) := by decide +kernel
theorem dX7_ticksOfWaiting_95 : decode cX7_ticksOfWaiting 95 = .ok (.sipush 10000, 3) := by decide +kernel
theorem dX7_ticksOfWaiting_98 : decode cX7_ticksOfWaiting 98 = .ok (.if_icmp .le 7, 3) := by decide +kernel
theorem dX7_ticksOfWaiting_101 : decode cX7_ticksOfWaiting 101 = .ok (.iconst (-1), 1) := by decide +kernel
theorem dX7_ticksOfWaiting_102 : decode cX7_ticksOfWaiting 102 = .ok (.goto 4, 3) := by decide +kernel
theorem dX7_ticksOfWaiting_105 : decode cX7_ticksOfWaiting 105 = .ok (.iload_n 2, 1) := by decide +kernel
theorem dX7_ticksOfWaiting_106 : decode cX7_ticksOfWaiting 106 = .ok (.ireturn, 1) := by decide +kernel
theorem dX7_ticksUntilSafe_0 : decode cX7_ticksUntilSafe 0 = .ok (.aload_n 0, 1) := by decide +kernel
theorem dX7_ticksUntilSafe_1 : decode cX7_ticksUntilSafe 1 = .ok (.iload_n 1, 1) := by decide +kernel
theorem dX7_ticksUntilSafe_2 : decode cX7_ticksUntilSafe 2 = .ok (.ifCond .ge 7, 3) := by decide +kernel
theorem dX7_ticksUntilSafe_5 : decode cX7_ticksUntilSafe 5 = .ok (.iconst 1, 1) := by decide +kernel
theorem dX7_ticksUntilSafe_6 : decode cX7_ticksUntilSafe 6 = .ok (.goto 4, 3) := by decide +kernel
theorem dX7_ticksUntilSafe_9 : decode cX7_ticksUntilSafe 9 = .ok (.iconst 0, 1) := by decide +kernel
theorem dX7_ticksUntilSafe_10 : decode cX7_ticksUntilSafe 10 = .ok (.invokevirtual 136, 3) := by decide +kernel
theorem dX7_ticksUntilSafe_13 : decode cX7_ticksUntilSafe 13 = .ok (.ifCond .eq 5, 3) := by decide +kernel
theorem dX7_ticksUntilSafe_16 : decode cX7_ticksUntilSafe 16 = .ok (.iconst 0, 1) := by decide +kernel
theorem dX7_ticksUntilSafe_17 : decode cX7_ticksUntilSafe 17 = .ok (.ireturn, 1) := by decide +kernel
theorem dX7_ticksUntilSafe_18 : decode cX7_ticksUntilSafe 18 = .ok (.aload_n 0, 1) := by decide +kernel
theorem dX7_ticksUntilSafe_19 : decode cX7_ticksUntilSafe 19 = .ok (.iload_n 1, 1) := by decide +kernel
theorem dX7_ticksUntilSafe_20 : decode cX7_ticksUntilSafe 20 = .ok (.invokevirtual 238, 3) := by decide +kernel
theorem dX7_ticksUntilSafe_23 : decode cX7_ticksUntilSafe 23 = .ok (.istore_n 2, 1) := by decide +kernel
theorem dX7_ticksUntilSafe_24 : decode cX7_ticksUntilSafe 24 = .ok (.iload_n 2, 1) := by decide +kernel
theorem dX7_ticksUntilSafe_25 : decode cX7_ticksUntilSafe 25 = .ok (.iconst (-1), 1) := by decide +kernel
theorem dX7_ticksUntilSafe_26 : decode cX7_ticksUntilSafe 26 = .ok (.if_icmp .ne 7, 3) := by decide +kernel
theorem dX7_ticksUntilSafe_29 : decode cX7_ticksUntilSafe 29 = .ok (.iconst (-1), 1) := by decide +kernel
theorem dX7_ticksUntilSafe_30 : decode cX7_ticksUntilSafe 30 = .ok (.goto 9, 3) := by decide +kernel
theorem dX7_ticksUntilSafe_33 : decode cX7_ticksUntilSafe 33 = .ok (.aload_n 0, 1) := by decide +kernel
theorem dX7_ticksUntilSafe_34 : decode cX7_ticksUntilSafe 34 = .ok (.iload_n 1, 1) := by decide +kernel
theorem dX7_ticksUntilSafe_35 : decode cX7_ticksUntilSafe 35 = .ok (.iload_n 2, 1) := by decide +kernel
theorem dX7_ticksUntilSafe_36 : decode cX7_ticksUntilSafe 36 = .ok (.invokevirtual 241, 3) := by decide +kernel
theorem dX7_ticksUntilSafe_39 : decode cX7_ticksUntilSafe 39 = .ok (.ireturn, 1) := by decide +kernel
theorem dX7_count_0 : decode cX7_count 0 = .ok (.iconst 0, 1) := by decide +kernel
theorem dX7_count_1 : decode cX7_count 1 = .ok (.istore_n 2, 1) := by decide +kernel
theorem dX7_count_2 : decode cX7_count 2 = .ok (.iconst 0, 1) := by decide +kernel
theorem dX7_count_3 : decode cX7_count 3 = .ok (.istore_n 3, 1) := by decide +kernel
theorem dX7_count_4 : decode cX7_count 4 = .ok (.iload_n 3, 1) := by decide +kernel
theorem dX7_count_5 : decode cX7_count 5 = .ok (.aload_n 0, 1) := by decide +kernel
theorem dX7_count_6 : decode cX7_count 6 = .ok (.getfield 7, 3) := by decide +kernel
theorem dX7_count_9 : decode cX7_count 9 = .ok (.iconst 3, 1) := by decide +kernel
theorem dX7_count_10 : decode cX7_count 10 = .ok (.iaload, 1) := by decide +kernel
theorem dX7_count_11 : decode cX7_count 11 = .ok (.if_icmp .ge 27, 3) := by decide +kernel
theorem dX7_count_14 : decode cX7_count 14 = .ok (.iload_n 2, 1) := by decide +kernel
theorem dX7_count_15 : decode cX7_count 15 = .ok (.aload_n 0, 1) := by decide +kernel
theorem dX7_count_16 : decode cX7_count 16 = .ok (.iload_n 3, 1) := by decide +kernel
theorem dX7_count_17 : decode cX7_count 17 = .ok (.iconst 1, 1) := by decide +kernel
theorem dX7_count_18 : decode cX7_count 18 = .ok (.invokevirtual 61, 3) := by decide +kernel
theorem dX7_count_21 : decode cX7_count 21 = .ok (.iload_n 1, 1) := by decide +kernel
theorem dX7_count_22 : decode cX7_count 22 = .ok (.if_icmp .ne 7, 3) := by decide +kernel
theorem dX7_count_25 : decode cX7_count 25 = .ok (.iconst 1, 1) := by decide +kernel
theorem dX7_count_26 : decode cX7_count 26 = .ok (.goto 4, 3) := by decide +kernel
theorem dX7_count_29 : decode cX7_count 29 = .ok (.iconst 0, 1) := by decide +kernel
theorem dX7_count_30 : decode cX7_count 30 = .ok (.iadd, 1) := by decide +kernel
theorem dX7_count_31 : decode cX7_count 31 = .ok (.istore_n 2, 1) := by decide +kernel
theorem dX7_count_32 : decode cX7_count 32 = .ok (.iinc 3 1, 3) := by decide +kernel
theorem dX7_count_35 : decode cX7_count 35 = .ok (.goto (-31), 3) := by decide +kernel
theorem dX7_count_38 : decode cX7_count 38 = .ok (.iload_n 2, 1) := by decide +kernel
theorem dX7_count_39 : decode cX7_count 39 = .ok (.ireturn, 1) := by decide +kernel
theorem dX7_countInState_0 : decode cX7_countInState 0 = .ok (.aload_n 0, 1) := by decide +kernel
theorem dX7_countInState_1 : decode cX7_countInState 1 = .ok (.iload_n 1, 1) := by decide +kernel
theorem dX7_countInState_2 : decode cX7_countInState 2 = .ok (.iconst 0, 1) := by decide +kernel
theorem dX7_countInState_3 : decode cX7_countInState 3 = .ok (.iconst 3, 1) := by decide +kernel
theorem dX7_countInState_4 : decode cX7_countInState 4 = .ok (.invokestatic 30, 3) := by decide +kernel
theorem dX7_countInState_7 : decode cX7_countInState 7 = .ok (.ifCond .eq 7, 3) := by decide +kernel
theorem dX7_countInState_10 : decode cX7_countInState 10 = .ok (.iconst 0, 1) := by decide +kernel
theorem dX7_countInState_11 : decode cX7_countInState 11 = .ok (.goto 4, 3) := by decide +kernel
theorem dX7_countInState_14 : decode cX7_countInState 14 = .ok (.iconst 1, 1) := by decide +kernel
theorem dX7_countInState_15 : decode cX7_countInState 15 = .ok (.invokevirtual 136, 3) := by decide +kernel
theorem dX7_countInState_18 : decode cX7_countInState 18 = .ok (.ifCond .eq 7, 3) := by decide +kernel
theorem dX7_countInState_21 : decode cX7_countInState 21 = .ok (.iconst 0, 1) := by decide +kernel
theorem dX7_countInState_22 : decode cX7_countInState 22 = .ok (.goto 8, 3) := by decide +kernel
theorem dX7_countInState_25 : decode cX7_countInState 25 = .ok (.aload_n 0, 1) := by decide +kernel
theorem dX7_countInState_26 : decode cX7_countInState 26 = .ok (.iload_n 1, 1) := by decide +kernel
theorem dX7_countInState_27 : decode cX7_countInState 27 = .ok (.invokevirtual 244, 3) := by decide +kernel
theorem dX7_countInState_30 : decode cX7_countInState 30 = .ok (.ireturn, 1) := by decide +kernel
theorem dX7_totalWait_0 : decode cX7_totalWait 0 = .ok (.aload_n 0, 1) := by decide +kernel
theorem dX7_totalWait_1 : decode cX7_totalWait 1 = .ok (.iconst 0, 1) := by decide +kernel
theorem dX7_totalWait_2 : decode cX7_totalWait 2 = .ok (.putfield 26, 3) := by decide +kernel
theorem dX7_totalWait_5 : decode cX7_totalWait 5 = .ok (.iconst 0, 1) := by decide +kernel
theorem dX7_totalWait_6 : decode cX7_totalWait 6 = .ok (.istore_n 1, 1) := by decide +kernel
theorem dX7_totalWait_7 : decode cX7_totalWait 7 = .ok (.iconst 0, 1) := by decide +kernel
theorem dX7_totalWait_8 : decode cX7_totalWait 8 = .ok (.istore_n 2, 1) := by decide +kernel
theorem dX7_totalWait_9 : decode cX7_totalWait 9 = .ok (.iload_n 2, 1) := by decide +kernel
theorem dX7_totalWait_10 : decode cX7_totalWait 10 = .ok (.aload_n 0, 1) := by decide +kernel
theorem dX7_totalWait_11 : decode cX7_totalWait 11 = .ok (.getfield 7, 3) := by decide +kernel
theorem dX7_totalWait_14 : decode cX7_totalWait 14 = .ok (.iconst 3, 1) := by decide +kernel
theorem dX7_totalWait_15 : decode cX7_totalWait 15 = .ok (.iaload, 1) := by decide +kernel
theorem dX7_totalWait_16 : decode cX7_totalWait 16 = .ok (.if_icmp .ge 39, 3) := by decide +kernel
theorem dX7_totalWait_19 : decode cX7_totalWait 19 = .ok (.iload_n 1, 1) := by decide +kernel
theorem dX7_totalWait_20 : decode cX7_totalWait 20 = .ok (.aload_n 0, 1) := by decide +kernel
theorem dX7_totalWait_21 : decode cX7_totalWait 21 = .ok (.iload_n 2, 1) := by decide +kernel
theorem dX7_totalWait_22 : decode cX7_totalWait 22 = .ok (.iconst 1, 1) := by decide +kernel
theorem dX7_totalWait_23 : decode cX7_totalWait 23 = .ok (.invokevirtual 61, 3) := by decide +kernel
theorem dX7_totalWait_26 : decode cX7_totalWait 26 = .ok (.iconst 2, 1) := by decide +kernel
theorem dX7_totalWait_27 : decode cX7_totalWait 27 = .ok (.if_icmp .ne 19, 3) := by decide +kernel
theorem dX7_totalWait_30 : decode cX7_totalWait 30 = .ok (.aload_n 0, 1) := by decide +kernel
theorem dX7_totalWait_31 : decode cX7_totalWait 31 = .ok (.iload_n 2, 1) := by decide +kernel
theorem dX7_totalWait_32 : decode cX7_totalWait 32 = .ok (.iconst 4, 1) := by decide +kernel
theorem dX7_totalWait_33 : decode cX7_totalWait 33 = .ok (.invokevirtual 61, 3) := by decide +kernel
theorem dX7_totalWait_36 : decode cX7_totalWait 36 = .ok (.aload_n 0, 1) := by decide +kernel
theorem dX7_totalWait_37 : decode cX7_totalWait 37 = .ok (.iload_n 2, 1) := by decide +kernel
theorem dX7_totalWait_38 : decode cX7_totalWait 38 = .ok (.iconst 3, 1) := by decide +kernel
theorem dX7_totalWait_39 : decode cX7_totalWait 39 = .ok (.invokevirtual 61, 3) := by decide +kernel
theorem dX7_totalWait_42 : decode cX7_totalWait 42 = .ok (.isub, 1) := by decide +kernel
theorem dX7_totalWait_43 : decode cX7_totalWait 43 = .ok (.goto 4, 3) := by decide +kernel
theorem dX7_totalWait_46 : decode cX7_totalWait 46 = .ok (.iconst 0, 1) := by decide +kernel
theorem dX7_totalWait_47 : decode cX7_totalWait 47 = .ok (.iadd, 1) := by decide +kernel
theorem dX7_totalWait_48 : decode cX7_totalWait 48 = .ok (.istore_n 1, 1) := by decide +kernel
theorem dX7_totalWait_49 : decode cX7_totalWait 49 = .ok (.iinc 2 1, 3) := by decide +kernel
theorem dX7_totalWait_52 : decode cX7_totalWait 52 = .ok (.goto (-43), 3) := by decide +kernel
theorem dX7_totalWait_55 : decode cX7_totalWait 55 = .ok (.iload_n 1, 1) := by decide +kernel
theorem dX7_totalWait_56 : decode cX7_totalWait 56 = .ok (.ireturn, 1) := by decide +kernel
theorem dX7_unsoundUses_0 : decode cX7_unsoundUses 0 = .ok (.aload_n 0, 1) := by decide +kernel
theorem dX7_unsoundUses_1 : decode cX7_unsoundUses 1 = .ok (.iconst 0, 1) := by decide +kernel
theorem dX7_unsoundUses_2 : decode cX7_unsoundUses 2 = .ok (.putfield 26, 3) := by decide +kernel
theorem dX7_unsoundUses_5 : decode cX7_unsoundUses 5 = .ok (.aload_n 0, 1) := by decide +kernel
theorem dX7_unsoundUses_6 : decode cX7_unsoundUses 6 = .ok (.getfield 7, 3) := by decide +kernel
theorem dX7_unsoundUses_9 : decode cX7_unsoundUses 9 = .ok (.iconst 2, 1) := by decide +kernel
theorem dX7_unsoundUses_10 : decode cX7_unsoundUses 10 = .ok (.iaload, 1) := by decide +kernel
theorem dX7_unsoundUses_11 : decode cX7_unsoundUses 11 = .ok (.ireturn, 1) := by decide +kernel
theorem dX7_isInverted_0 : decode cX7_isInverted 0 = .ok (.aload_n 0, 1) := by decide +kernel
theorem dX7_isInverted_1 : decode cX7_isInverted 1 = .ok (.iload_n 1, 1) := by decide +kernel
theorem dX7_isInverted_2 : decode cX7_isInverted 2 = .ok (.iconst 1, 1) := by decide +kernel
theorem dX7_isInverted_3 : decode cX7_isInverted 3 = .ok (.invokevirtual 61, 3) := by decide +kernel
theorem dX7_isInverted_6 : decode cX7_isInverted 6 = .ok (.iconst 2, 1) := by decide +kernel
theorem dX7_isInverted_7 : decode cX7_isInverted 7 = .ok (.if_icmp .ne 30, 3) := by decide +kernel
theorem dX7_isInverted_10 : decode cX7_isInverted 10 = .ok (.aload_n 0, 1) := by decide +kernel
theorem dX7_isInverted_11 : decode cX7_isInverted 11 = .ok (.iload_n 2, 1) := by decide +kernel
theorem dX7_isInverted_12 : decode cX7_isInverted 12 = .ok (.invokevirtual 226, 3) := by decide +kernel
theorem dX7_isInverted_15 : decode cX7_isInverted 15 = .ok (.ifCond .eq 22, 3) := by decide +kernel
theorem dX7_isInverted_18 : decode cX7_isInverted 18 = .ok (.aload_n 0, 1) := by decide +kernel
theorem dX7_isInverted_19 : decode cX7_isInverted 19 = .ok (.iload_n 1, 1) := by decide +kernel
theorem dX7_isInverted_20 : decode cX7_isInverted 20 = .ok (.iconst 4, 1) := by decide +kernel
theorem dX7_isInverted_21 : decode cX7_isInverted 21 = .ok (.invokevirtual 61, 3) := by decide +kernel
theorem dX7_isInverted_24 : decode cX7_isInverted 24 = .ok (.aload_n 0, 1) := by decide +kernel
theorem dX7_isInverted_25 : decode cX7_isInverted 25 = .ok (.iload_n 2, 1) := by decide +kernel
theorem dX7_isInverted_26 : decode cX7_isInverted 26 = .ok (.iconst 3, 1) := by decide +kernel
theorem dX7_isInverted_27 : decode cX7_isInverted 27 = .ok (.invokevirtual 61, 3) := by decide +kernel
theorem dX7_isInverted_30 : decode cX7_isInverted 30 = .ok (.if_icmp .gt 7, 3) := by decide +kernel
theorem dX7_isInverted_33 : decode cX7_isInverted 33 = .ok (.iconst 1, 1) := by decide +kernel
theorem dX7_isInverted_34 : decode cX7_isInverted 34 = .ok (.goto 4, 3) := by decide +kernel
theorem dX7_isInverted_37 : decode cX7_isInverted 37 = .ok (.iconst 0, 1) := by decide +kernel
theorem dX7_isInverted_38 : decode cX7_isInverted 38 = .ok (.istore_n 3, 1) := by decide +kernel
theorem dX7_isInverted_39 : decode cX7_isInverted 39 = .ok (.iload_n 3, 1) := by decide +kernel
theorem dX7_isInverted_40 : decode cX7_isInverted 40 = .ok (.ifCond .eq 22, 3) := by decide +kernel
theorem dX7_isInverted_43 : decode cX7_isInverted 43 = .ok (.aload_n 0, 1) := by decide +kernel
theorem dX7_isInverted_44 : decode cX7_isInverted 44 = .ok (.iload_n 1, 1) := by decide +kernel
theorem dX7_isInverted_45 : decode cX7_isInverted 45 = .ok (.iconst 2, 1) := by decide +kernel
theorem dX7_isInverted_46 : decode cX7_isInverted 46 = .ok (.invokevirtual 61, 3) := by decide +kernel
theorem dX7_isInverted_49 : decode cX7_isInverted 49 = .ok (.aload_n 0, 1) := by decide +kernel
theorem dX7_isInverted_50 : decode cX7_isInverted 50 = .ok (.iload_n 2, 1) := by decide +kernel
theorem dX7_isInverted_51 : decode cX7_isInverted 51 = .ok (.iconst 2, 1) := by decide +kernel
theorem dX7_isInverted_52 : decode cX7_isInverted 52 = .ok (.invokevirtual 61, 3) := by decide +kernel
theorem dX7_isInverted_55 : decode cX7_isInverted 55 = .ok (.if_icmp .lt 7, 3) := by decide +kernel
theorem dX7_isInverted_58 : decode cX7_isInverted 58 = .ok (.iconst 1, 1) := by decide +kernel
theorem dX7_isInverted_59 : decode cX7_isInverted 59 = .ok (.goto 4, 3) := by decide +kernel
theorem dX7_isInverted_62 : decode cX7_isInverted 62 = .ok (.iconst 0, 1) := by decide +kernel
theorem dX7_isInverted_63 : decode cX7_isInverted 63 = .ok (.ireturn, 1) := by decide +kernel
theorem dX7_inversions_0 : decode cX7_inversions 0 = .ok (.aload_n 0, 1) := by decide +kernel
theorem dX7_inversions_1 : decode cX7_inversions 1 = .ok (.iconst 0, 1) := by decide +kernel
theorem dX7_inversions_2 : decode cX7_inversions 2 = .ok (.putfield 26, 3) := by decide +kernel
theorem dX7_inversions_5 : decode cX7_inversions 5 = .ok (.iconst 0, 1) := by decide +kernel
theorem dX7_inversions_6 : decode cX7_inversions 6 = .ok (.istore_n 1, 1) := by decide +kernel
theorem dX7_inversions_7 : decode cX7_inversions 7 = .ok (.iconst 0, 1) := by decide +kernel
theorem dX7_inversions_8 : decode cX7_inversions 8 = .ok (.istore_n 2, 1) := by decide +kernel
theorem dX7_inversions_9 : decode cX7_inversions 9 = .ok (.iload_n 2, 1) := by decide +kernel
theorem dX7_inversions_10 : decode cX7_inversions 10 = .ok (.aload_n 0, 1) := by decide +kernel
theorem dX7_inversions_11 : decode cX7_inversions 11 = .ok (.getfield 7, 3) := by decide +kernel
theorem dX7_inversions_14 : decode cX7_inversions 14 = .ok (.iconst 3, 1) := by decide +kernel
theorem dX7_inversions_15 : decode cX7_inversions 15 = .ok (.iaload, 1) := by decide +kernel
theorem dX7_inversions_16 : decode cX7_inversions 16 = .ok (.if_icmp .ge 44, 3) := by decide +kernel
theorem dX7_inversions_19 : decode cX7_inversions 19 = .ok (.iconst 0, 1) := by decide +kernel
theorem dX7_inversions_20 : decode cX7_inversions 20 = .ok (.istore_n 3, 1) := by decide +kernel
theorem dX7_inversions_21 : decode cX7_inversions 21 = .ok (.iload_n 3, 1) := by decide +kernel
theorem dX7_inversions_22 : decode cX7_inversions 22 = .ok (.aload_n 0, 1) := by decide +kernel
theorem dX7_inversions_23 : decode cX7_inversions 23 = .ok (.getfield 7, 3) := by decide +kernel
theorem dX7_inversions_26 : decode cX7_inversions 26 = .ok (.iconst 3, 1) := by decide +kernel
theorem dX7_inversions_27 : decode cX7_inversions 27 = .ok (.iaload, 1) := by decide +kernel
theorem dX7_inversions_28 : decode cX7_inversions 28 = .ok (.if_icmp .ge 26, 3) := by decide +kernel
theorem dX7_inversions_31 : decode cX7_inversions 31 = .ok (.iload_n 1, 1) := by decide +kernel
theorem dX7_inversions_32 : decode cX7_inversions 32 = .ok (.aload_n 0, 1) := by decide +kernel
theorem dX7_inversions_33 : decode cX7_inversions 33 = .ok (.iload_n 2, 1) := by decide +kernel
theorem dX7_inversions_34 : decode cX7_inversions 34 = .ok (.iload_n 3, 1) := by decide +kernel
theorem dX7_inversions_35 : decode cX7_inversions 35 = .ok (.invokevirtual 247, 3) := by decide +kernel
theorem dX7_inversions_38 : decode cX7_inversions 38 = .ok (.ifCond .eq 7, 3) := by decide +kernel
theorem dX7_inversions_41 : decode cX7_inversions 41 = .ok (.iconst 1, 1) := by decide +kernel
theorem dX7_inversions_42 : decode cX7_inversions 42 = .ok (.goto 4, 3) := by decide +kernel
theorem dX7_inversions_45 : decode cX7_inversions 45 = .ok (.iconst 0, 1) := by decide +kernel
theorem dX7_inversions_46 : decode cX7_inversions 46 = .ok (.iadd, 1) := by decide +kernel
theorem dX7_inversions_47 : decode cX7_inversions 47 = .ok (.istore_n 1, 1) := by decide +kernel
theorem dX7_inversions_48 : decode cX7_inversions 48 = .ok (.iinc 3 1, 3) := by decide +kernel
theorem dX7_inversions_51 : decode cX7_inversions 51 = .ok (.goto (-30), 3) := by decide +kernel
theorem dX7_inversions_54 : decode cX7_inversions 54 = .ok (.iinc 2 1, 3) := by decide +kernel
theorem dX7_inversions_57 : decode cX7_inversions 57 = .ok (.goto (-48), 3) := by decide +kernel
theorem dX7_inversions_60 : decode cX7_inversions 60 = .ok (.iload_n 1, 1) := by decide +kernel
theorem dX7_inversions_61 : decode cX7_inversions 61 = .ok (.ireturn, 1) := by decide +kernel
theorem dX7_savedStates_0 : decode cX7_savedStates 0 = .ok (.aload_n 0, 1) := by decide +kernel
theorem dX7_savedStates_1 : decode cX7_savedStates 1 = .ok (.iconst 0, 1) := by decide +kernel
theorem dX7_savedStates_2 : decode cX7_savedStates 2 = .ok (.putfield 26, 3) := by decide +kernel
theorem dX7_savedStates_5 : decode cX7_savedStates 5 = .ok (.aload_n 0, 1) := by decide +kernel
theorem dX7_savedStates_6 : decode cX7_savedStates 6 = .ok (.getfield 34, 3) := by decide +kernel
theorem dX7_savedStates_9 : decode cX7_savedStates 9 = .ok (.ireturn, 1) := by decide +kernel
theorem dX7_textLength_0 : decode cX7_textLength 0 = .ok (.aload_n 0, 1) := by decide +kernel
theorem dX7_textLength_1 : decode cX7_textLength 1 = .ok (.iconst 0, 1) := by decide +kernel
theorem dX7_textLength_2 : decode cX7_textLength 2 = .ok (.putfield 26, 3) := by decide +kernel
theorem dX7_textLength_5 : decode cX7_textLength 5 = .ok (.aload_n 0, 1) := by decide +kernel
theorem dX7_textLength_6 : decode cX7_textLength 6 = .ok (.getfield 183, 3) := by decide +kernel
theorem dX7_textLength_9 : decode cX7_textLength 9 = .ok (.ireturn, 1) := by decide +kernel
