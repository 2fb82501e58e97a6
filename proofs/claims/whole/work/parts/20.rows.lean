theorem d_Model_isEnd_0 : decode b_Model_isEnd 0 = .ok (.iload_n 0, 1) := by decide +kernel
theorem d_Model_isEnd_1 : decode b_Model_isEnd 1 = .ok (.ifCond .eq 8, 3) := by decide +kernel
theorem d_Model_isEnd_4 : decode b_Model_isEnd 4 = .ok (.iload_n 0, 1) := by decide +kernel
theorem d_Model_isEnd_5 : decode b_Model_isEnd 5 = .ok (.iconst 1, 1) := by decide +kernel
theorem d_Model_isEnd_6 : decode b_Model_isEnd 6 = .ok (.if_icmp .ne 7, 3) := by decide +kernel
theorem d_Model_isEnd_9 : decode b_Model_isEnd 9 = .ok (.iconst 1, 1) := by decide +kernel
theorem d_Model_isEnd_10 : decode b_Model_isEnd 10 = .ok (.goto 4, 3) := by decide +kernel
theorem d_Model_isEnd_13 : decode b_Model_isEnd 13 = .ok (.iconst 0, 1) := by decide +kernel
theorem d_Model_isEnd_14 : decode b_Model_isEnd 14 = .ok (.ireturn, 1) := by decide +kernel
theorem d_Model_fits_0 : decode b_Model_fits 0 = .ok (.iload_n 0, 1) := by decide +kernel
theorem d_Model_fits_1 : decode b_Model_fits 1 = .ok (.ifCond .lt 12, 3) := by decide +kernel
theorem d_Model_fits_4 : decode b_Model_fits 4 = .ok (.iload_n 0, 1) := by decide +kernel
theorem d_Model_fits_5 : decode b_Model_fits 5 = .ok (.iload_n 1, 1) := by decide +kernel
theorem d_Model_fits_6 : decode b_Model_fits 6 = .ok (.if_icmp .gt 7, 3) := by decide +kernel
theorem d_Model_fits_9 : decode b_Model_fits 9 = .ok (.iconst 1, 1) := by decide +kernel
theorem d_Model_fits_10 : decode b_Model_fits 10 = .ok (.goto 4, 3) := by decide +kernel
theorem d_Model_fits_13 : decode b_Model_fits 13 = .ok (.iconst 0, 1) := by decide +kernel
theorem d_Model_fits_14 : decode b_Model_fits 14 = .ok (.ireturn, 1) := by decide +kernel
theorem d_Model_mixed_0 : decode b_Model_mixed 0 = .ok (.iload_n 0, 1) := by decide +kernel
theorem d_Model_mixed_1 : decode b_Model_mixed 1 = .ok (.iload_n 1, 1) := by decide +kernel
theorem d_Model_mixed_2 : decode b_Model_mixed 2 = .ok (.ixor, 1) := by decide +kernel
theorem d_Model_mixed_3 : decode b_Model_mixed 3 = .ok (.istore_n 2, 1) := by decide +kernel
theorem d_Model_mixed_4 : decode b_Model_mixed 4 = .ok (.iconst 0, 1) := by decide +kernel
theorem d_Model_mixed_5 : decode b_Model_mixed 5 = .ok (.istore_n 3, 1) := by decide +kernel
theorem d_Model_mixed_6 : decode b_Model_mixed 6 = .ok (.iload_n 3, 1) := by decide +kernel
theorem d_Model_mixed_7 : decode b_Model_mixed 7 = .ok (.bipush 8, 2) := by decide +kernel
theorem d_Model_mixed_9 : decode b_Model_mixed 9 = .ok (.if_icmp .ge 33, 3) := by decide +kernel
theorem d_Model_mixed_12 : decode b_Model_mixed 12 = .ok (.iload_n 2, 1) := by decide +kernel
theorem d_Model_mixed_13 : decode b_Model_mixed 13 = .ok (.iconst 2, 1) := by decide +kernel
theorem d_Model_mixed_14 : decode b_Model_mixed 14 = .ok (.idiv, 1) := by decide +kernel
theorem d_Model_mixed_15 : decode b_Model_mixed 15 = .ok (.istore 4, 2) := by decide +kernel
theorem d_Model_mixed_17 : decode b_Model_mixed 17 = .ok (.iload_n 2, 1) := by decide +kernel
theorem d_Model_mixed_18 : decode b_Model_mixed 18 = .ok (.iconst 2, 1) := by decide +kernel
theorem d_Model_mixed_19 : decode b_Model_mixed 19 = .ok (.irem, 1) := by decide +kernel
theorem d_Model_mixed_20 : decode b_Model_mixed 20 = .ok (.iconst 1, 1) := by decide +kernel
theorem d_Model_mixed_21 : decode b_Model_mixed 21 = .ok (.if_icmp .ne 12, 3) := by decide +kernel
theorem d_Model_mixed_24 : decode b_Model_mixed 24 = .ok (.iload 4, 2) := by decide +kernel
theorem d_Model_mixed_26 : decode b_Model_mixed 26 = .ok (.sipush 224, 3) := by decide +kernel
theorem d_Model_mixed_29 : decode b_Model_mixed 29 = .ok (.ixor, 1) := by decide +kernel
theorem d_Model_mixed_30 : decode b_Model_mixed 30 = .ok (.goto 5, 3) := by decide +kernel
theorem d_Model_mixed_33 : decode b_Model_mixed 33 = .ok (.iload 4, 2) := by decide +kernel
theorem d_Model_mixed_35 : decode b_Model_mixed 35 = .ok (.istore_n 2, 1) := by decide +kernel
theorem d_Model_mixed_36 : decode b_Model_mixed 36 = .ok (.iinc 3 1, 3) := by decide +kernel
theorem d_Model_mixed_39 : decode b_Model_mixed 39 = .ok (.goto (-33), 3) := by decide +kernel
theorem d_Model_mixed_42 : decode b_Model_mixed 42 = .ok (.iload_n 2, 1) := by decide +kernel
theorem d_Model_mixed_43 : decode b_Model_mixed 43 = .ok (.ireturn, 1) := by decide +kernel
theorem d_Model_add_0 : decode b_Model_add 0 = .ok (.aload_n 0, 1) := by decide +kernel
theorem d_Model_add_1 : decode b_Model_add 1 = .ok (.getfield 56, 3) := by decide +kernel
theorem d_Model_add_4 : decode b_Model_add 4 = .ok (.bipush 64, 2) := by decide +kernel
theorem d_Model_add_6 : decode b_Model_add 6 = .ok (.iload_n 1, 1) := by decide +kernel
theorem d_Model_add_7 : decode b_Model_add 7 = .ok (.imul, 1) := by decide +kernel
theorem d_Model_add_8 : decode b_Model_add 8 = .ok (.aload_n 0, 1) := by decide +kernel
theorem d_Model_add_9 : decode b_Model_add 9 = .ok (.getfield 59, 3) := by decide +kernel
theorem d_Model_add_12 : decode b_Model_add 12 = .ok (.iload_n 1, 1) := by decide +kernel
theorem d_Model_add_13 : decode b_Model_add 13 = .ok (.iaload, 1) := by decide +kernel
theorem d_Model_add_14 : decode b_Model_add 14 = .ok (.iadd, 1) := by decide +kernel
theorem d_Model_add_15 : decode b_Model_add 15 = .ok (.iload_n 2, 1) := by decide +kernel
theorem d_Model_add_16 : decode b_Model_add 16 = .ok (.iastore, 1) := by decide +kernel
theorem d_Model_add_17 : decode b_Model_add 17 = .ok (.aload_n 0, 1) := by decide +kernel
theorem d_Model_add_18 : decode b_Model_add 18 = .ok (.getfield 59, 3) := by decide +kernel
theorem d_Model_add_21 : decode b_Model_add 21 = .ok (.iload_n 1, 1) := by decide +kernel
theorem d_Model_add_22 : decode b_Model_add 22 = .ok (.dup2, 1) := by decide +kernel
theorem d_Model_add_23 : decode b_Model_add 23 = .ok (.iaload, 1) := by decide +kernel
theorem d_Model_add_24 : decode b_Model_add 24 = .ok (.iconst 1, 1) := by decide +kernel
theorem d_Model_add_25 : decode b_Model_add 25 = .ok (.iadd, 1) := by decide +kernel
theorem d_Model_add_26 : decode b_Model_add 26 = .ok (.iastore, 1) := by decide +kernel
theorem d_Model_add_27 : decode b_Model_add 27 = .ok (.return_, 1) := by decide +kernel
theorem d_Model_remove_0 : decode b_Model_remove 0 = .ok (.aload_n 0, 1) := by decide +kernel
theorem d_Model_remove_1 : decode b_Model_remove 1 = .ok (.getfield 56, 3) := by decide +kernel
theorem d_Model_remove_4 : decode b_Model_remove 4 = .ok (.bipush 64, 2) := by decide +kernel
theorem d_Model_remove_6 : decode b_Model_remove 6 = .ok (.iload_n 1, 1) := by decide +kernel
theorem d_Model_remove_7 : decode b_Model_remove 7 = .ok (.imul, 1) := by decide +kernel
theorem d_Model_remove_8 : decode b_Model_remove 8 = .ok (.iaload, 1) := by decide +kernel
theorem d_Model_remove_9 : decode b_Model_remove 9 = .ok (.istore_n 2, 1) := by decide +kernel
theorem d_Model_remove_10 : decode b_Model_remove 10 = .ok (.aload_n 0, 1) := by decide +kernel
theorem d_Model_remove_11 : decode b_Model_remove 11 = .ok (.getfield 59, 3) := by decide +kernel
theorem d_Model_remove_14 : decode b_Model_remove 14 = .ok (.iload_n 1, 1) := by decide +kernel
theorem d_Model_remove_15 : decode b_Model_remove 15 = .ok (.dup2, 1) := by decide +kernel
theorem d_Model_remove_16 : decode b_Model_remove 16 = .ok (.iaload, 1) := by decide +kernel
theorem d_Model_remove_17 : decode b_Model_remove 17 = .ok (.iconst 1, 1) := by decide +kernel
theorem d_Model_remove_18 : decode b_Model_remove 18 = .ok (.isub, 1) := by decide +kernel
theorem d_Model_remove_19 : decode b_Model_remove 19 = .ok (.iastore, 1) := by decide +kernel
theorem d_Model_remove_20 : decode b_Model_remove 20 = .ok (.iconst 0, 1) := by decide +kernel
theorem d_Model_remove_21 : decode b_Model_remove 21 = .ok (.istore_n 3, 1) := by decide +kernel
theorem d_Model_remove_22 : decode b_Model_remove 22 = .ok (.iload_n 3, 1) := by decide +kernel
theorem d_Model_remove_23 : decode b_Model_remove 23 = .ok (.aload_n 0, 1) := by decide +kernel
theorem d_Model_remove_24 : decode b_Model_remove 24 = .ok (.getfield 59, 3) := by decide +kernel
theorem d_Model_remove_27 : decode b_Model_remove 27 = .ok (.iload_n 1, 1) := by decide +kernel
theorem d_Model_remove_28 : decode b_Model_remove 28 = .ok (.iaload, 1) := by decide +kernel
theorem d_Model_remove_29 : decode b_Model_remove 29 = .ok (.if_icmp .ge 33, 3) := by decide +kernel
theorem d_Model_remove_32 : decode b_Model_remove 32 = .ok (.aload_n 0, 1) := by decide +kernel
theorem d_Model_remove_33 : decode b_Model_remove 33 = .ok (.getfield 56, 3) := by decide +kernel
theorem d_Model_remove_36 : decode b_Model_remove 36 = .ok (.bipush 64, 2) := by decide +kernel
theorem d_Model_remove_38 : decode b_Model_remove 38 = .ok (.iload_n 1, 1) := by decide +kernel
theorem d_Model_remove_39 : decode b_Model_remove 39 = .ok (.imul, 1) := by decide +kernel
theorem d_Model_remove_40 : decode b_Model_remove 40 = .ok (.iload_n 3, 1) := by decide +kernel
theorem d_Model_remove_41 : decode b_Model_remove 41 = .ok (.iadd, 1) := by decide +kernel
theorem d_Model_remove_42 : decode b_Model_remove 42 = .ok (.aload_n 0, 1) := by decide +kernel
theorem d_Model_remove_43 : decode b_Model_remove 43 = .ok (.getfield 56, 3) := by decide +kernel
theorem d_Model_remove_46 : decode b_Model_remove 46 = .ok (.bipush 64, 2) := by decide +kernel
theorem d_Model_remove_48 : decode b_Model_remove 48 = .ok (.iload_n 1, 1) := by decide +kernel
theorem d_Model_remove_49 : decode b_Model_remove 49 = .ok (.imul, 1) := by decide +kernel
theorem d_Model_remove_50 : decode b_Model_remove 50 = .ok (.iload_n 3, 1) := by decide +kernel
theorem d_Model_remove_51 : decode b_Model_remove 51 = .ok (.iadd, 1) := by decide +kernel
theorem d_Model_remove_52 : decode b_Model_remove 52 = .ok (.iconst 1, 1) := by decide +kernel
theorem d_Model_remove_53 : decode b_Model_remove 53 = .ok (.iadd, 1) := by decide +kernel
theorem d_Model_remove_54 : decode b_Model_remove 54 = .ok (.iaload, 1) := by decide +kernel
theorem d_Model_remove_55 : decode b_Model_remove 55 = .ok (.iastore, 1) := by decide +kernel
theorem d_Model_remove_56 : decode b_Model_remove 56 = .ok (.iinc 3 1, 3) := by decide +kernel
theorem d_Model_remove_59 : decode b_Model_remove 59 = .ok (.goto (-37), 3) := by decide +kernel
theorem d_Model_remove_62 : decode b_Model_remove 62 = .ok (.iload_n 2, 1) := by decide +kernel
theorem d_Model_remove_63 : decode b_Model_remove 63 = .ok (.ireturn, 1) := by decide +kernel
theorem d_Model_append_0 : decode b_Model_append 0 = .ok (.aload_n 0, 1) := by decide +kernel
theorem d_Model_append_1 : decode b_Model_append 1 = .ok (.getfield 65, 3) := by decide +kernel
theorem d_Model_append_4 : decode b_Model_append 4 = .ok (.iload_n 1, 1) := by decide +kernel
theorem d_Model_append_5 : decode b_Model_append 5 = .ok (.baload, 1) := by decide +kernel
theorem d_Model_append_6 : decode b_Model_append 6 = .ok (.ifCond .ne 11, 3) := by decide +kernel
theorem d_Model_append_9 : decode b_Model_append 9 = .ok (.aload_n 0, 1) := by decide +kernel
theorem d_Model_append_10 : decode b_Model_append 10 = .ok (.iconst 2, 1) := by decide +kernel
theorem d_Model_append_11 : decode b_Model_append 11 = .ok (.iload_n 1, 1) := by decide +kernel
theorem d_Model_append_12 : decode b_Model_append 12 = .ok (.imul, 1) := by decide +kernel
theorem d_Model_append_13 : decode b_Model_append 13 = .ok (.iload_n 2, 1) := by decide +kernel
theorem d_Model_append_14 : decode b_Model_append 14 = .ok (.invokevirtual 88, 3) := by decide +kernel
theorem d_Model_append_17 : decode b_Model_append 17 = .ok (.aload_n 0, 1) := by decide +kernel
theorem d_Model_append_18 : decode b_Model_append 18 = .ok (.getfield 65, 3) := by decide +kernel
theorem d_Model_append_21 : decode b_Model_append 21 = .ok (.iload_n 1, 1) := by decide +kernel
theorem d_Model_append_22 : decode b_Model_append 22 = .ok (.aload_n 0, 1) := by decide +kernel
theorem d_Model_append_23 : decode b_Model_append 23 = .ok (.getfield 65, 3) := by decide +kernel
theorem d_Model_append_26 : decode b_Model_append 26 = .ok (.iload_n 1, 1) := by decide +kernel
theorem d_Model_append_27 : decode b_Model_append 27 = .ok (.baload, 1) := by decide +kernel
theorem d_Model_append_28 : decode b_Model_append 28 = .ok (.ifCond .eq 14, 3) := by decide +kernel
theorem d_Model_append_31 : decode b_Model_append 31 = .ok (.iload_n 2, 1) := by decide +kernel
theorem d_Model_append_32 : decode b_Model_append 32 = .ok (.sipush 256, 3) := by decide +kernel
theorem d_Model_append_35 : decode b_Model_append 35 = .ok (.if_icmp .ge 7, 3) := by decide +kernel
theorem d_Model_append_38 : decode b_Model_append 38 = .ok (.iconst 1, 1) := by decide +kernel
theorem d_Model_append_39 : decode b_Model_append 39 = .ok (.goto 4, 3) := by decide +kernel
theorem d_Model_append_42 : decode b_Model_append 42 = .ok (.iconst 0, 1) := by decide +kernel
theorem d_Model_append_43 : decode b_Model_append 43 = .ok (.bastore, 1) := by decide +kernel
theorem d_Model_append_44 : decode b_Model_append 44 = .ok (.return_, 1) := by decide +kernel
theorem d_Model_arrival_0 : decode b_Model_arrival 0 = .ok (.aload_n 0, 1) := by decide +kernel
theorem d_Model_arrival_1 : decode b_Model_arrival 1 = .ok (.getfield 7, 3) := by decide +kernel
theorem d_Model_arrival_4 : decode b_Model_arrival 4 = .ok (.iload_n 1, 1) := by decide +kernel
theorem d_Model_arrival_5 : decode b_Model_arrival 5 = .ok (.iaload, 1) := by decide +kernel
theorem d_Model_arrival_6 : decode b_Model_arrival 6 = .ok (.ifCond .ne 5, 3) := by decide +kernel
theorem d_Model_arrival_9 : decode b_Model_arrival 9 = .ok (.iconst 0, 1) := by decide +kernel
theorem d_Model_arrival_10 : decode b_Model_arrival 10 = .ok (.ireturn, 1) := by decide +kernel
theorem d_Model_arrival_11 : decode b_Model_arrival 11 = .ok (.iload_n 2, 1) := by decide +kernel
theorem d_Model_arrival_12 : decode b_Model_arrival 12 = .ok (.bipush (-3), 2) := by decide +kernel
theorem d_Model_arrival_14 : decode b_Model_arrival 14 = .ok (.if_icmp .ne 16, 3) := by decide +kernel
theorem d_Model_arrival_17 : decode b_Model_arrival 17 = .ok (.aload_n 0, 1) := by decide +kernel
theorem d_Model_arrival_18 : decode b_Model_arrival 18 = .ok (.getfield 23, 3) := by decide +kernel
theorem d_Model_arrival_21 : decode b_Model_arrival 21 = .ok (.iload_n 1, 1) := by decide +kernel
theorem d_Model_arrival_22 : decode b_Model_arrival 22 = .ok (.baload, 1) := by decide +kernel
theorem d_Model_arrival_23 : decode b_Model_arrival 23 = .ok (.ifCond .eq 7, 3) := by decide +kernel
theorem d_Model_arrival_26 : decode b_Model_arrival 26 = .ok (.iconst 1, 1) := by decide +kernel
theorem d_Model_arrival_27 : decode b_Model_arrival 27 = .ok (.goto 4, 3) := by decide +kernel
theorem d_Model_arrival_30 : decode b_Model_arrival 30 = .ok (.iconst 0, 1) := by decide +kernel
theorem d_Model_arrival_31 : decode b_Model_arrival 31 = .ok (.istore 4, 2) := by decide +kernel
theorem d_Model_arrival_33 : decode b_Model_arrival 33 = .ok (.iload 4, 2) := by decide +kernel
theorem d_Model_arrival_35 : decode b_Model_arrival 35 = .ok (.ifCond .eq 16, 3) := by decide +kernel
theorem d_Model_arrival_38 : decode b_Model_arrival 38 = .ok (.aload_n 0, 1) := by decide +kernel
theorem d_Model_arrival_39 : decode b_Model_arrival 39 = .ok (.getfield 26, 3) := by decide +kernel
theorem d_Model_arrival_42 : decode b_Model_arrival 42 = .ok (.iload_n 1, 1) := by decide +kernel
theorem d_Model_arrival_43 : decode b_Model_arrival 43 = .ok (.baload, 1) := by decide +kernel
theorem d_Model_arrival_44 : decode b_Model_arrival 44 = .ok (.ifCond .eq 7, 3) := by decide +kernel
theorem d_Model_arrival_47 : decode b_Model_arrival 47 = .ok (.iconst 1, 1) := by decide +kernel
theorem d_Model_arrival_48 : decode b_Model_arrival 48 = .ok (.goto 4, 3) := by decide +kernel
theorem d_Model_arrival_51 : decode b_Model_arrival 51 = .ok (.iconst 0, 1) := by decide +kernel
theorem d_Model_arrival_52 : decode b_Model_arrival 52 = .ok (.istore 5, 2) := by decide +kernel
theorem d_Model_arrival_54 : decode b_Model_arrival 54 = .ok (.aload_n 0, 1) := by decide +kernel
theorem d_Model_arrival_55 : decode b_Model_arrival 55 = .ok (.getfield 26, 3) := by decide +kernel
theorem d_Model_arrival_58 : decode b_Model_arrival 58 = .ok (.iload_n 1, 1) := by decide +kernel
theorem d_Model_arrival_59 : decode b_Model_arrival 59 = .ok (.iload 4, 2) := by decide +kernel
theorem d_Model_arrival_61 : decode b_Model_arrival 61 = .ok (.bastore, 1) := by decide +kernel
theorem d_Model_arrival_62 : decode b_Model_arrival 62 = .ok (.iload_n 2, 1) := by decide +kernel
theorem d_Model_arrival_63 : decode b_Model_arrival 63 = .ok (.bipush (-3), 2) := by decide +kernel
theorem d_Model_arrival_65 : decode b_Model_arrival 65 = .ok (.if_icmp .ne 6, 3) := by decide +kernel
theorem d_Model_arrival_68 : decode b_Model_arrival 68 = .ok (.iload 5, 2) := by decide +kernel
theorem d_Model_arrival_70 : decode b_Model_arrival 70 = .ok (.ireturn, 1) := by decide +kernel
theorem d_Model_arrival_71 : decode b_Model_arrival 71 = .ok (.aload_n 0, 1) := by decide +kernel
theorem d_Model_arrival_72 : decode b_Model_arrival 72 = .ok (.getfield 7, 3) := by decide +kernel
theorem d_Model_arrival_75 : decode b_Model_arrival 75 = .ok (.iload_n 1, 1) := by decide +kernel
theorem d_Model_arrival_76 : decode b_Model_arrival 76 = .ok (.iaload, 1) := by decide +kernel
theorem d_Model_arrival_77 : decode b_Model_arrival 77 = .ok (.iconst 5, 1) := by decide +kernel
theorem d_Model_arrival_78 : decode b_Model_arrival 78 = .ok (.if_icmp .ne 7, 3) := by decide +kernel
theorem d_Model_arrival_81 : decode b_Model_arrival 81 = .ok (.iconst 1, 1) := by decide +kernel
theorem d_Model_arrival_82 : decode b_Model_arrival 82 = .ok (.goto 4, 3) := by decide +kernel
theorem d_Model_arrival_85 : decode b_Model_arrival 85 = .ok (.iconst 0, 1) := by decide +kernel
theorem d_Model_arrival_86 : decode b_Model_arrival 86 = .ok (.istore 6, 2) := by decide +kernel
theorem d_Model_arrival_88 : decode b_Model_arrival 88 = .ok (.iload_n 3, 1) := by decide +kernel
theorem d_Model_arrival_89 : decode b_Model_arrival 89 = .ok (.ifCond .ne 32, 3) := by decide +kernel
theorem d_Model_arrival_92 : decode b_Model_arrival 92 = .ok (.iload_n 2, 1) := by decide +kernel
theorem d_Model_arrival_93 : decode b_Model_arrival 93 = .ok (.sipush 259, 3) := by decide +kernel
theorem d_Model_arrival_96 : decode b_Model_arrival 96 = .ok (.if_icmp .eq 27, 3) := by decide +kernel
theorem d_Model_arrival_99 : decode b_Model_arrival 99 = .ok (.iload 6, 2) := by decide +kernel
theorem d_Model_arrival_101 : decode b_Model_arrival 101 = .ok (.ifCond .ne 22, 3) := by decide +kernel
theorem d_Model_arrival_104 : decode b_Model_arrival 104 = .ok (.iload_n 2, 1) := by decide +kernel
theorem d_Model_arrival_105 : decode b_Model_arrival 105 = .ok (.sipush 258, 3) := by decide +kernel
theorem d_Model_arrival_108 : decode b_Model_arrival 108 = .ok (.if_icmp .ne 13, 3) := by decide +kernel
theorem d_Model_arrival_111 : decode b_Model_arrival 111 = .ok (.aload_n 0, 1) := by decide +kernel
theorem d_Model_arrival_112 : decode b_Model_arrival 112 = .ok (.getfield 7, 3) := by decide +kernel
theorem d_Model_arrival_115 : decode b_Model_arrival 115 = .ok (.iload_n 1, 1) := by decide +kernel
theorem d_Model_arrival_116 : decode b_Model_arrival 116 = .ok (.iaload, 1) := by decide +kernel
theorem d_Model_arrival_117 : decode b_Model_arrival 117 = .ok (.iconst 4, 1) := by decide +kernel
theorem d_Model_arrival_118 : decode b_Model_arrival 118 = .ok (.if_icmp .eq 5, 3) := by decide +kernel
theorem d_Model_arrival_121 : decode b_Model_arrival 121 = .ok (.iconst 1, 1) := by decide +kernel
theorem d_Model_arrival_122 : decode b_Model_arrival 122 = .ok (.ireturn, 1) := by decide +kernel
theorem d_Model_arrival_123 : decode b_Model_arrival 123 = .ok (.iload_n 2, 1) := by decide +kernel
theorem d_Model_arrival_124 : decode b_Model_arrival 124 = .ok (.sipush 259, 3) := by decide +kernel
theorem d_Model_arrival_127 : decode b_Model_arrival 127 = .ok (.if_icmp .ne 13, 3) := by decide +kernel
theorem d_Model_arrival_130 : decode b_Model_arrival 130 = .ok (.aload_n 0, 1) := by decide +kernel
theorem d_Model_arrival_131 : decode b_Model_arrival 131 = .ok (.getfield 23, 3) := by decide +kernel
theorem d_Model_arrival_134 : decode b_Model_arrival 134 = .ok (.iload_n 1, 1) := by decide +kernel
theorem d_Model_arrival_135 : decode b_Model_arrival 135 = .ok (.iconst 1, 1) := by decide +kernel
theorem d_Model_arrival_136 : decode b_Model_arrival 136 = .ok (.bastore, 1) := by decide +kernel
theorem d_Model_arrival_137 : decode b_Model_arrival 137 = .ok (.goto 173, 3) := by decide +kernel
theorem d_Model_arrival_140 : decode b_Model_arrival 140 = .ok (.iload_n 2, 1) := by decide +kernel
theorem d_Model_arrival_141 : decode b_Model_arrival 141 = .ok (.sipush 258, 3) := by decide +kernel
theorem d_Model_arrival_144 : decode b_Model_arrival 144 = .ok (.if_icmp .ne 60, 3) := by decide +kernel
theorem d_Model_arrival_147 : decode b_Model_arrival 147 = .ok (.aload_n 0, 1) := by decide +kernel
theorem d_Model_arrival_148 : decode b_Model_arrival 148 = .ok (.getfield 29, 3) := by decide +kernel
theorem d_Model_arrival_151 : decode b_Model_arrival 151 = .ok (.iload_n 1, 1) := by decide +kernel
theorem d_Model_arrival_152 : decode b_Model_arrival 152 = .ok (.aload_n 0, 1) := by decide +kernel
theorem d_Model_arrival_153 : decode b_Model_arrival 153 = .ok (.getfield 29, 3) := by decide +kernel
theorem d_Model_arrival_156 : decode b_Model_arrival 156 = .ok (.iload_n 1, 1) := by decide +kernel
theorem d_Model_arrival_157 : decode b_Model_arrival 157 = .ok (.iaload, 1) := by decide +kernel
theorem d_Model_arrival_158 : decode b_Model_arrival 158 = .ok (.bipush 8, 2) := by decide +kernel
theorem d_Model_arrival_160 : decode b_Model_arrival 160 = .ok (.iadd, 1) := by decide +kernel
theorem d_Model_arrival_161 : decode b_Model_arrival 161 = .ok (.iastore, 1) := by decide +kernel
theorem d_Model_arrival_162 : decode b_Model_arrival 162 = .ok (.iload 6, 2) := by decide +kernel
theorem d_Model_arrival_164 : decode b_Model_arrival 164 = .ok (.ifCond .ne 146, 3) := by decide +kernel
theorem d_Model_arrival_167 : decode b_Model_arrival 167 = .ok (.aload_n 0, 1) := by decide +kernel
theorem d_Model_arrival_168 : decode b_Model_arrival 168 = .ok (.getfield 7, 3) := by decide +kernel
theorem d_Model_arrival_171 : decode b_Model_arrival 171 = .ok (.iload_n 1, 1) := by decide +kernel
theorem d_Model_arrival_172 : decode b_Model_arrival 172 = .ok (.iconst 5, 1) := by decide +kernel
theorem d_Model_arrival_173 : decode b_Model_arrival 173 = .ok (.iastore, 1) := by decide +kernel
theorem d_Model_arrival_174 : decode b_Model_arrival 174 = .ok (.aload_n 0, 1) := by decide +kernel
theorem d_Model_arrival_175 : decode b_Model_arrival 175 = .ok (.getfield 13, 3) := by decide +kernel
theorem d_Model_arrival_178 : decode b_Model_arrival 178 = .ok (.iload_n 1, 1) := by decide +kernel
theorem d_Model_arrival_179 : decode b_Model_arrival 179 = .ok (.iconst (-1), 1) := by decide +kernel
theorem d_Model_arrival_180 : decode b_Model_arrival 180 = .ok (.iastore, 1) := by decide +kernel
theorem d_Model_arrival_181 : decode b_Model_arrival 181 = .ok (.aload_n 0, 1) := by decide +kernel
theorem d_Model_arrival_182 : decode b_Model_arrival 182 = .ok (.getfield 62, 3) := by decide +kernel
theorem d_Model_arrival_185 : decode b_Model_arrival 185 = .ok (.iconst 2, 1) := by decide +kernel
theorem d_Model_arrival_186 : decode b_Model_arrival 186 = .ok (.iload_n 1, 1) := by decide +kernel
theorem d_Model_arrival_187 : decode b_Model_arrival 187 = .ok (.imul, 1) := by decide +kernel
theorem d_Model_arrival_188 : decode b_Model_arrival 188 = .ok (.iconst 0, 1) := by decide +kernel
theorem d_Model_arrival_189 : decode b_Model_arrival 189 = .ok (.bastore, 1) := by decide +kernel
theorem d_Model_arrival_190 : decode b_Model_arrival 190 = .ok (.aload_n 0, 1) := by decide +kernel
theorem d_Model_arrival_191 : decode b_Model_arrival 191 = .ok (.getfield 62, 3) := by decide +kernel
theorem d_Model_arrival_194 : decode b_Model_arrival 194 = .ok (.iconst 2, 1) := by decide +kernel
theorem d_Model_arrival_195 : decode b_Model_arrival 195 = .ok (.iload_n 1, 1) := by decide +kernel
theorem d_Model_arrival_196 : decode b_Model_arrival 196 = .ok (.imul, 1) := by decide +kernel
theorem d_Model_arrival_197 : decode b_Model_arrival 197 = .ok (.iconst 1, 1) := by decide +kernel
theorem d_Model_arrival_198 : decode b_Model_arrival 198 = .ok (.iadd, 1) := by decide +kernel
theorem d_Model_arrival_199 : decode b_Model_arrival 199 = .ok (.iconst 0, 1) := by decide +kernel
theorem d_Model_arrival_200 : decode b_Model_arrival 200 = .ok (.bastore, 1) := by decide +kernel
theorem d_Model_arrival_201 : decode b_Model_arrival 201 = .ok (.goto 109, 3) := by decide +kernel
theorem d_Model_arrival_204 : decode b_Model_arrival 204 = .ok (.iload_n 2, 1) := by decide +kernel
theorem d_Model_arrival_205 : decode b_Model_arrival 205 = .ok (.sipush 259, 3) := by decide +kernel
theorem d_Model_arrival_208 : decode b_Model_arrival 208 = .ok (.if_icmp .le 60, 3) := by decide +kernel
theorem d_Model_arrival_211 : decode b_Model_arrival 211 = .ok (.iload_n 2, 1) := by decide +kernel
theorem d_Model_arrival_212 : decode b_Model_arrival 212 = .ok (.sipush 260, 3) := by decide +kernel
theorem d_Model_arrival_215 : decode b_Model_arrival 215 = .ok (.isub, 1) := by decide +kernel
theorem d_Model_arrival_216 : decode b_Model_arrival 216 = .ok (.istore 7, 2) := by decide +kernel
theorem d_Model_arrival_218 : decode b_Model_arrival 218 = .ok (.aload_n 0, 1) := by decide +kernel
theorem d_Model_arrival_219 : decode b_Model_arrival 219 = .ok (.getfield 41, 3) := by decide +kernel
theorem d_Model_arrival_222 : decode b_Model_arrival 222 = .ok (.iload_n 1, 1) := by decide +kernel
theorem d_Model_arrival_223 : decode b_Model_arrival 223 = .ok (.aload_n 0, 1) := by decide +kernel
theorem d_Model_arrival_224 : decode b_Model_arrival 224 = .ok (.getfield 38, 3) := by decide +kernel
theorem d_Model_arrival_227 : decode b_Model_arrival 227 = .ok (.iload_n 1, 1) := by decide +kernel
theorem d_Model_arrival_228 : decode b_Model_arrival 228 = .ok (.iaload, 1) := by decide +kernel
theorem d_Model_arrival_229 : decode b_Model_arrival 229 = .ok (.iconst 1, 1) := by decide +kernel
theorem d_Model_arrival_230 : decode b_Model_arrival 230 = .ok (.iadd, 1) := by decide +kernel
theorem d_Model_arrival_231 : decode b_Model_arrival 231 = .ok (.bipush 64, 2) := by decide +kernel
theorem d_Model_arrival_233 : decode b_Model_arrival 233 = .ok (.irem, 1) := by decide +kernel
theorem d_Model_arrival_234 : decode b_Model_arrival 234 = .ok (.iload 7, 2) := by decide +kernel
theorem d_Model_arrival_236 : decode b_Model_arrival 236 = .ok (.if_icmp .ne 14, 3) := by decide +kernel
theorem d_Model_arrival_239 : decode b_Model_arrival 239 = .ok (.aload_n 0, 1) := by decide +kernel
theorem d_Model_arrival_240 : decode b_Model_arrival 240 = .ok (.getfield 41, 3) := by decide +kernel
theorem d_Model_arrival_243 : decode b_Model_arrival 243 = .ok (.iload_n 1, 1) := by decide +kernel
theorem d_Model_arrival_244 : decode b_Model_arrival 244 = .ok (.iaload, 1) := by decide +kernel
theorem d_Model_arrival_245 : decode b_Model_arrival 245 = .ok (.iconst 1, 1) := by decide +kernel
theorem d_Model_arrival_246 : decode b_Model_arrival 246 = .ok (.iadd, 1) := by decide +kernel
theorem d_Model_arrival_247 : decode b_Model_arrival 247 = .ok (.goto 9, 3) := by decide +kernel
theorem d_Model_arrival_250 : decode b_Model_arrival 250 = .ok (.aload_n 0, 1) := by decide +kernel
theorem d_Model_arrival_251 : decode b_Model_arrival 251 = .ok (.getfield 41, 3) := by decide +kernel
theorem d_Model_arrival_254 : decode b_Model_arrival 254 = .ok (.iload_n 1, 1) := by decide +kernel
theorem d_Model_arrival_255 : decode b_Model_arrival 255 = .ok (.iaload, 1) := by decide +kernel
theorem d_Model_arrival_256 : decode b_Model_arrival 256 = .ok (.iastore, 1) := by decide +kernel
theorem d_Model_arrival_257 : decode b_Model_arrival 257 = .ok (.aload_n 0, 1) := by decide +kernel
theorem d_Model_arrival_258 : decode b_Model_arrival 258 = .ok (.getfield 38, 3) := by decide +kernel
theorem d_Model_arrival_261 : decode b_Model_arrival 261 = .ok (.iload_n 1, 1) := by decide +kernel
theorem d_Model_arrival_262 : decode b_Model_arrival 262 = .ok (.iload 7, 2) := by decide +kernel
theorem d_Model_arrival_264 : decode b_Model_arrival 264 = .ok (.iastore, 1) := by decide +kernel
theorem d_Model_arrival_265 : decode b_Model_arrival 265 = .ok (.goto 45, 3) := by decide +kernel
theorem d_Model_arrival_268 : decode b_Model_arrival 268 = .ok (.aload_n 0, 1) := by decide +kernel
theorem d_Model_arrival_269 : decode b_Model_arrival 269 = .ok (.getfield 32, 3) := by decide +kernel
theorem d_Model_arrival_272 : decode b_Model_arrival 272 = .ok (.iload_n 1, 1) := by decide +kernel
theorem d_Model_arrival_273 : decode b_Model_arrival 273 = .ok (.dup2, 1) := by decide +kernel
theorem d_Model_arrival_274 : decode b_Model_arrival 274 = .ok (.iaload, 1) := by decide +kernel
theorem d_Model_arrival_275 : decode b_Model_arrival 275 = .ok (.iconst 1, 1) := by decide +kernel
theorem d_Model_arrival_276 : decode b_Model_arrival 276 = .ok (.isub, 1) := by decide +kernel
theorem d_Model_arrival_277 : decode b_Model_arrival 277 = .ok (.iastore, 1) := by decide +kernel
theorem d_Model_arrival_278 : decode b_Model_arrival 278 = .ok (.aload_n 0, 1) := by decide +kernel
theorem d_Model_arrival_279 : decode b_Model_arrival 279 = .ok (.iconst 2, 1) := by decide +kernel
theorem d_Model_arrival_280 : decode b_Model_arrival 280 = .ok (.iload_n 1, 1) := by decide +kernel
theorem d_Model_arrival_281 : decode b_Model_arrival 281 = .ok (.imul, 1) := by decide +kernel
theorem d_Model_arrival_282 : decode b_Model_arrival 282 = .ok (.iconst 1, 1) := by decide +kernel
theorem d_Model_arrival_283 : decode b_Model_arrival 283 = .ok (.iadd, 1) := by decide +kernel
theorem d_Model_arrival_284 : decode b_Model_arrival 284 = .ok (.iload_n 2, 1) := by decide +kernel
theorem d_Model_arrival_285 : decode b_Model_arrival 285 = .ok (.invokevirtual 88, 3) := by decide +kernel
theorem d_Model_arrival_288 : decode b_Model_arrival 288 = .ok (.aload_n 0, 1) := by decide +kernel
theorem d_Model_arrival_289 : decode b_Model_arrival 289 = .ok (.getfield 62, 3) := by decide +kernel
theorem d_Model_arrival_292 : decode b_Model_arrival 292 = .ok (.iconst 2, 1) := by decide +kernel
theorem d_Model_arrival_293 : decode b_Model_arrival 293 = .ok (.iload_n 1, 1) := by decide +kernel
theorem d_Model_arrival_294 : decode b_Model_arrival 294 = .ok (.imul, 1) := by decide +kernel
theorem d_Model_arrival_295 : decode b_Model_arrival 295 = .ok (.iconst 1, 1) := by decide +kernel
theorem d_Model_arrival_296 : decode b_Model_arrival 296 = .ok (.iadd, 1) := by decide +kernel
theorem d_Model_arrival_297 : decode b_Model_arrival 297 = .ok (.iload_n 2, 1) := by decide +kernel
theorem d_Model_arrival_298 : decode b_Model_arrival 298 = .ok (.sipush 256, 3) := by decide +kernel
theorem d_Model_arrival_301 : decode b_Model_arrival 301 = .ok (.if_icmp .ge 7, 3) := by decide +kernel
theorem d_Model_arrival_304 : decode b_Model_arrival 304 = .ok (.iconst 1, 1) := by decide +kernel
theorem d_Model_arrival_305 : decode b_Model_arrival 305 = .ok (.goto 4, 3) := by decide +kernel
theorem d_Model_arrival_308 : decode b_Model_arrival 308 = .ok (.iconst 0, 1) := by decide +kernel
theorem d_Model_arrival_309 : decode b_Model_arrival 309 = .ok (.bastore, 1) := by decide +kernel
theorem d_Model_arrival_310 : decode b_Model_arrival 310 = .ok (.iconst 0, 1) := by decide +kernel
theorem d_Model_arrival_311 : decode b_Model_arrival 311 = .ok (.ireturn, 1) := by decide +kernel
theorem d_Model_fall_0 : decode b_Model_fall 0 = .ok (.aload_n 0, 1) := by decide +kernel
theorem d_Model_fall_1 : decode b_Model_fall 1 = .ok (.getfield 7, 3) := by decide +kernel
theorem d_Model_fall_4 : decode b_Model_fall 4 = .ok (.iload_n 1, 1) := by decide +kernel
theorem d_Model_fall_5 : decode b_Model_fall 5 = .ok (.iaload, 1) := by decide +kernel
theorem d_Model_fall_6 : decode b_Model_fall 6 = .ok (.iconst 5, 1) := by decide +kernel
theorem d_Model_fall_7 : decode b_Model_fall 7 = .ok (.if_icmp .ne 7, 3) := by decide +kernel
theorem d_Model_fall_10 : decode b_Model_fall 10 = .ok (.iconst 1, 1) := by decide +kernel
theorem d_Model_fall_11 : decode b_Model_fall 11 = .ok (.goto 4, 3) := by decide +kernel
theorem d_Model_fall_14 : decode b_Model_fall 14 = .ok (.iconst 0, 1) := by decide +kernel
theorem d_Model_fall_15 : decode b_Model_fall 15 = .ok (.istore_n 2, 1) := by decide +kernel
theorem d_Model_fall_16 : decode b_Model_fall 16 = .ok (.aload_n 0, 1) := by decide +kernel
theorem d_Model_fall_17 : decode b_Model_fall 17 = .ok (.getfield 35, 3) := by decide +kernel
theorem d_Model_fall_20 : decode b_Model_fall 20 = .ok (.iload_n 1, 1) := by decide +kernel
theorem d_Model_fall_21 : decode b_Model_fall 21 = .ok (.dup2, 1) := by decide +kernel
theorem d_Model_fall_22 : decode b_Model_fall 22 = .ok (.iaload, 1) := by decide +kernel
theorem d_Model_fall_23 : decode b_Model_fall 23 = .ok (.iconst 1, 1) := by decide +kernel
theorem d_Model_fall_24 : decode b_Model_fall 24 = .ok (.iadd, 1) := by decide +kernel
theorem d_Model_fall_25 : decode b_Model_fall 25 = .ok (.iastore, 1) := by decide +kernel
theorem d_Model_fall_26 : decode b_Model_fall 26 = .ok (.iload_n 2, 1) := by decide +kernel
theorem d_Model_fall_27 : decode b_Model_fall 27 = .ok (.ifCond .eq 28, 3) := by decide +kernel
theorem d_Model_fall_30 : decode b_Model_fall 30 = .ok (.aload_n 0, 1) := by decide +kernel
theorem d_Model_fall_31 : decode b_Model_fall 31 = .ok (.getfield 62, 3) := by decide +kernel
theorem d_Model_fall_34 : decode b_Model_fall 34 = .ok (.iconst 2, 1) := by decide +kernel
theorem d_Model_fall_35 : decode b_Model_fall 35 = .ok (.iload_n 1, 1) := by decide +kernel
theorem d_Model_fall_36 : decode b_Model_fall 36 = .ok (.imul, 1) := by decide +kernel
theorem d_Model_fall_37 : decode b_Model_fall 37 = .ok (.iconst 1, 1) := by decide +kernel
theorem d_Model_fall_38 : decode b_Model_fall 38 = .ok (.iadd, 1) := by decide +kernel
theorem d_Model_fall_39 : decode b_Model_fall 39 = .ok (.baload, 1) := by decide +kernel
theorem d_Model_fall_40 : decode b_Model_fall 40 = .ok (.ifCond .eq 15, 3) := by decide +kernel
theorem d_Model_fall_43 : decode b_Model_fall 43 = .ok (.aload_n 0, 1) := by decide +kernel
theorem d_Model_fall_44 : decode b_Model_fall 44 = .ok (.iconst 2, 1) := by decide +kernel
theorem d_Model_fall_45 : decode b_Model_fall 45 = .ok (.iload_n 1, 1) := by decide +kernel
theorem d_Model_fall_46 : decode b_Model_fall 46 = .ok (.imul, 1) := by decide +kernel
theorem d_Model_fall_47 : decode b_Model_fall 47 = .ok (.iconst 1, 1) := by decide +kernel
theorem d_Model_fall_48 : decode b_Model_fall 48 = .ok (.iadd, 1) := by decide +kernel
theorem d_Model_fall_49 : decode b_Model_fall 49 = .ok (.sipush 257, 3) := by decide +kernel
theorem d_Model_fall_52 : decode b_Model_fall 52 = .ok (.invokevirtual 88, 3) := by decide +kernel
theorem d_Model_fall_55 : decode b_Model_fall 55 = .ok (.iload_n 2, 1) := by decide +kernel
theorem d_Model_fall_56 : decode b_Model_fall 56 = .ok (.ifCond .eq 68, 3) := by decide +kernel
theorem d_Model_fall_59 : decode b_Model_fall 59 = .ok (.aload_n 0, 1) := by decide +kernel
theorem d_Model_fall_60 : decode b_Model_fall 60 = .ok (.getfield 62, 3) := by decide +kernel
theorem d_Model_fall_63 : decode b_Model_fall 63 = .ok (.iconst 2, 1) := by decide +kernel
theorem d_Model_fall_64 : decode b_Model_fall 64 = .ok (.iload_n 1, 1) := by decide +kernel
theorem d_Model_fall_65 : decode b_Model_fall 65 = .ok (.imul, 1) := by decide +kernel
theorem d_Model_fall_66 : decode b_Model_fall 66 = .ok (.baload, 1) := by decide +kernel
theorem d_Model_fall_67 : decode b_Model_fall 67 = .ok (.ifCond .eq 57, 3) := by decide +kernel
theorem d_Model_fall_70 : decode b_Model_fall 70 = .ok (.aload_n 0, 1) := by decide +kernel
theorem d_Model_fall_71 : decode b_Model_fall 71 = .ok (.getfield 65, 3) := by decide +kernel
theorem d_Model_fall_74 : decode b_Model_fall 74 = .ok (.iload_n 1, 1) := by decide +kernel
theorem d_Model_fall_75 : decode b_Model_fall 75 = .ok (.iconst 1, 1) := by decide +kernel
theorem d_Model_fall_76 : decode b_Model_fall 76 = .ok (.bastore, 1) := by decide +kernel
theorem d_Model_fall_77 : decode b_Model_fall 77 = .ok (.aload_n 0, 1) := by decide +kernel
theorem d_Model_fall_78 : decode b_Model_fall 78 = .ok (.getfield 65, 3) := by decide +kernel
theorem d_Model_fall_81 : decode b_Model_fall 81 = .ok (.iload_n 1, 1) := by decide +kernel
theorem d_Model_fall_82 : decode b_Model_fall 82 = .ok (.baload, 1) := by decide +kernel
theorem d_Model_fall_83 : decode b_Model_fall 83 = .ok (.ifCond .eq 41, 3) := by decide +kernel
theorem d_Model_fall_86 : decode b_Model_fall 86 = .ok (.aload_n 0, 1) := by decide +kernel
theorem d_Model_fall_87 : decode b_Model_fall 87 = .ok (.getfield 59, 3) := by decide +kernel
theorem d_Model_fall_90 : decode b_Model_fall 90 = .ok (.iconst 2, 1) := by decide +kernel
theorem d_Model_fall_91 : decode b_Model_fall 91 = .ok (.iload_n 1, 1) := by decide +kernel
theorem d_Model_fall_92 : decode b_Model_fall 92 = .ok (.imul, 1) := by decide +kernel
theorem d_Model_fall_93 : decode b_Model_fall 93 = .ok (.iaload, 1) := by decide +kernel
theorem d_Model_fall_94 : decode b_Model_fall 94 = .ok (.ifCond .le 30, 3) := by decide +kernel
theorem d_Model_fall_97 : decode b_Model_fall 97 = .ok (.aload_n 0, 1) := by decide +kernel
theorem d_Model_fall_98 : decode b_Model_fall 98 = .ok (.getfield 65, 3) := by decide +kernel
theorem d_Model_fall_101 : decode b_Model_fall 101 = .ok (.iload_n 1, 1) := by decide +kernel
theorem d_Model_fall_102 : decode b_Model_fall 102 = .ok (.aload_n 0, 1) := by decide +kernel
theorem d_Model_fall_103 : decode b_Model_fall 103 = .ok (.iconst 2, 1) := by decide +kernel
theorem d_Model_fall_104 : decode b_Model_fall 104 = .ok (.iload_n 1, 1) := by decide +kernel
theorem d_Model_fall_105 : decode b_Model_fall 105 = .ok (.imul, 1) := by decide +kernel
theorem d_Model_fall_106 : decode b_Model_fall 106 = .ok (.invokevirtual 92, 3) := by decide +kernel
theorem d_Model_fall_109 : decode b_Model_fall 109 = .ok (.sipush 256, 3) := by decide +kernel
theorem d_Model_fall_112 : decode b_Model_fall 112 = .ok (.if_icmp .ge 7, 3) := by decide +kernel
theorem d_Model_fall_115 : decode b_Model_fall 115 = .ok (.iconst 1, 1) := by decide +kernel
theorem d_Model_fall_116 : decode b_Model_fall 116 = .ok (.goto 4, 3) := by decide +kernel
theorem d_Model_fall_119 : decode b_Model_fall 119 = .ok (.iconst 0, 1) := by decide +kernel
theorem d_Model_fall_120 : decode b_Model_fall 120 = .ok (.bastore, 1) := by decide +kernel
theorem d_Model_fall_121 : decode b_Model_fall 121 = .ok (.goto (-44), 3) := by decide +kernel
theorem d_Model_fall_124 : decode b_Model_fall 124 = .ok (.aload_n 0, 1) := by decide +kernel
theorem d_Model_fall_125 : decode b_Model_fall 125 = .ok (.getfield 7, 3) := by decide +kernel
theorem d_Model_fall_128 : decode b_Model_fall 128 = .ok (.iload_n 1, 1) := by decide +kernel
theorem d_Model_fall_129 : decode b_Model_fall 129 = .ok (.iconst 0, 1) := by decide +kernel
theorem d_Model_fall_130 : decode b_Model_fall 130 = .ok (.iastore, 1) := by decide +kernel
theorem d_Model_fall_131 : decode b_Model_fall 131 = .ok (.aload_n 0, 1) := by decide +kernel
theorem d_Model_fall_132 : decode b_Model_fall 132 = .ok (.getfield 13, 3) := by decide +kernel
theorem d_Model_fall_135 : decode b_Model_fall 135 = .ok (.iload_n 1, 1) := by decide +kernel
theorem d_Model_fall_136 : decode b_Model_fall 136 = .ok (.iconst 0, 1) := by decide +kernel
theorem d_Model_fall_137 : decode b_Model_fall 137 = .ok (.iastore, 1) := by decide +kernel
theorem d_Model_fall_138 : decode b_Model_fall 138 = .ok (.aload_n 0, 1) := by decide +kernel
theorem d_Model_fall_139 : decode b_Model_fall 139 = .ok (.getfield 29, 3) := by decide +kernel
theorem d_Model_fall_142 : decode b_Model_fall 142 = .ok (.iload_n 1, 1) := by decide +kernel
theorem d_Model_fall_143 : decode b_Model_fall 143 = .ok (.iconst 0, 1) := by decide +kernel
theorem d_Model_fall_144 : decode b_Model_fall 144 = .ok (.iastore, 1) := by decide +kernel
theorem d_Model_fall_145 : decode b_Model_fall 145 = .ok (.aload_n 0, 1) := by decide +kernel
theorem d_Model_fall_146 : decode b_Model_fall 146 = .ok (.getfield 32, 3) := by decide +kernel
theorem d_Model_fall_149 : decode b_Model_fall 149 = .ok (.iload_n 1, 1) := by decide +kernel
theorem d_Model_fall_150 : decode b_Model_fall 150 = .ok (.iconst 0, 1) := by decide +kernel
theorem d_Model_fall_151 : decode b_Model_fall 151 = .ok (.iastore, 1) := by decide +kernel
theorem d_Model_fall_152 : decode b_Model_fall 152 = .ok (.aload_n 0, 1) := by decide +kernel
theorem d_Model_fall_153 : decode b_Model_fall 153 = .ok (.getfield 23, 3) := by decide +kernel
theorem d_Model_fall_156 : decode b_Model_fall 156 = .ok (.iload_n 1, 1) := by decide +kernel
theorem d_Model_fall_157 : decode b_Model_fall 157 = .ok (.iconst 0, 1) := by decide +kernel
theorem d_Model_fall_158 : decode b_Model_fall 158 = .ok (.bastore, 1) := by decide +kernel
theorem d_Model_fall_159 : decode b_Model_fall 159 = .ok (.aload_n 0, 1) := by decide +kernel
theorem d_Model_fall_160 : decode b_Model_fall 160 = .ok (.getfield 26, 3) := by decide +kernel
theorem d_Model_fall_163 : decode b_Model_fall 163 = .ok (.iload_n 1, 1) := by decide +kernel
theorem d_Model_fall_164 : decode b_Model_fall 164 = .ok (.iconst 0, 1) := by decide +kernel
theorem d_Model_fall_165 : decode b_Model_fall 165 = .ok (.bastore, 1) := by decide +kernel
theorem d_Model_fall_166 : decode b_Model_fall 166 = .ok (.return_, 1) := by decide +kernel
theorem d_Model_late_0 : decode b_Model_late 0 = .ok (.aload_n 0, 1) := by decide +kernel
theorem d_Model_late_1 : decode b_Model_late 1 = .ok (.getfield 13, 3) := by decide +kernel
theorem d_Model_late_4 : decode b_Model_late 4 = .ok (.iload_n 1, 1) := by decide +kernel
theorem d_Model_late_5 : decode b_Model_late 5 = .ok (.dup2, 1) := by decide +kernel
theorem d_Model_late_6 : decode b_Model_late 6 = .ok (.iaload, 1) := by decide +kernel
theorem d_Model_late_7 : decode b_Model_late 7 = .ok (.iconst 1, 1) := by decide +kernel
theorem d_Model_late_8 : decode b_Model_late 8 = .ok (.iadd, 1) := by decide +kernel
theorem d_Model_late_9 : decode b_Model_late 9 = .ok (.iastore, 1) := by decide +kernel
theorem d_Model_late_10 : decode b_Model_late 10 = .ok (.aload_n 0, 1) := by decide +kernel
theorem d_Model_late_11 : decode b_Model_late 11 = .ok (.getfield 7, 3) := by decide +kernel
theorem d_Model_late_14 : decode b_Model_late 14 = .ok (.iload_n 1, 1) := by decide +kernel
theorem d_Model_late_15 : decode b_Model_late 15 = .ok (.iaload, 1) := by decide +kernel
theorem d_Model_late_16 : decode b_Model_late 16 = .ok (.istore_n 2, 1) := by decide +kernel
theorem d_Model_late_17 : decode b_Model_late 17 = .ok (.aload_n 0, 1) := by decide +kernel
theorem d_Model_late_18 : decode b_Model_late 18 = .ok (.getfield 16, 3) := by decide +kernel
theorem d_Model_late_21 : decode b_Model_late 21 = .ok (.iload_n 1, 1) := by decide +kernel
theorem d_Model_late_22 : decode b_Model_late 22 = .ok (.baload, 1) := by decide +kernel
theorem d_Model_late_23 : decode b_Model_late 23 = .ok (.ifCond .ne 12, 3) := by decide +kernel
theorem d_Model_late_26 : decode b_Model_late 26 = .ok (.aload_n 0, 1) := by decide +kernel
theorem d_Model_late_27 : decode b_Model_late 27 = .ok (.getfield 20, 3) := by decide +kernel
theorem d_Model_late_30 : decode b_Model_late 30 = .ok (.iload_n 1, 1) := by decide +kernel
theorem d_Model_late_31 : decode b_Model_late 31 = .ok (.baload, 1) := by decide +kernel
theorem d_Model_late_32 : decode b_Model_late 32 = .ok (.ifCond .eq 7, 3) := by decide +kernel
theorem d_Model_late_35 : decode b_Model_late 35 = .ok (.iconst 1, 1) := by decide +kernel
theorem d_Model_late_36 : decode b_Model_late 36 = .ok (.goto 4, 3) := by decide +kernel
theorem d_Model_late_39 : decode b_Model_late 39 = .ok (.iconst 0, 1) := by decide +kernel
theorem d_Model_late_40 : decode b_Model_late 40 = .ok (.istore_n 3, 1) := by decide +kernel
theorem d_Model_late_41 : decode b_Model_late 41 = .ok (.iload_n 2, 1) := by decide +kernel
theorem d_Model_late_42 : decode b_Model_late 42 = .ok (.ifCond .ne 14, 3) := by decide +kernel
theorem d_Model_late_45 : decode b_Model_late 45 = .ok (.aload_n 0, 1) := by decide +kernel
theorem d_Model_late_46 : decode b_Model_late 46 = .ok (.getfield 13, 3) := by decide +kernel
theorem d_Model_late_49 : decode b_Model_late 49 = .ok (.iload_n 1, 1) := by decide +kernel
theorem d_Model_late_50 : decode b_Model_late 50 = .ok (.iaload, 1) := by decide +kernel
theorem d_Model_late_51 : decode b_Model_late 51 = .ok (.bipush 6, 2) := by decide +kernel
theorem d_Model_late_53 : decode b_Model_late 53 = .ok (.if_icmp .eq 65, 3) := by decide +kernel
theorem d_Model_late_56 : decode b_Model_late 56 = .ok (.iload_n 2, 1) := by decide +kernel
theorem d_Model_late_57 : decode b_Model_late 57 = .ok (.iconst 1, 1) := by decide +kernel
theorem d_Model_late_58 : decode b_Model_late 58 = .ok (.if_icmp .ne 14, 3) := by decide +kernel
theorem d_Model_late_61 : decode b_Model_late 61 = .ok (.aload_n 0, 1) := by decide +kernel
theorem d_Model_late_62 : decode b_Model_late 62 = .ok (.getfield 13, 3) := by decide +kernel
theorem d_Model_late_65 : decode b_Model_late 65 = .ok (.iload_n 1, 1) := by decide +kernel
theorem d_Model_late_66 : decode b_Model_late 66 = .ok (.iaload, 1) := by decide +kernel
theorem d_Model_late_67 : decode b_Model_late 67 = .ok (.bipush 12, 2) := by decide +kernel
theorem d_Model_late_69 : decode b_Model_late 69 = .ok (.if_icmp .eq 49, 3) := by decide +kernel
theorem d_Model_late_72 : decode b_Model_late 72 = .ok (.iload_n 2, 1) := by decide +kernel
theorem d_Model_late_73 : decode b_Model_late 73 = .ok (.iconst 2, 1) := by decide +kernel
theorem d_Model_late_74 : decode b_Model_late 74 = .ok (.if_icmp .ne 30, 3) := by decide +kernel
theorem d_Model_late_77 : decode b_Model_late 77 = .ok (.aload_n 0, 1) := by decide +kernel
theorem d_Model_late_78 : decode b_Model_late 78 = .ok (.getfield 16, 3) := by decide +kernel
theorem d_Model_late_81 : decode b_Model_late 81 = .ok (.iload_n 1, 1) := by decide +kernel
theorem d_Model_late_82 : decode b_Model_late 82 = .ok (.baload, 1) := by decide +kernel
theorem d_Model_late_83 : decode b_Model_late 83 = .ok (.ifCond .ne 35, 3) := by decide +kernel
theorem d_Model_late_86 : decode b_Model_late 86 = .ok (.aload_n 0, 1) := by decide +kernel
theorem d_Model_late_87 : decode b_Model_late 87 = .ok (.getfield 20, 3) := by decide +kernel
theorem d_Model_late_90 : decode b_Model_late 90 = .ok (.iload_n 1, 1) := by decide +kernel
theorem d_Model_late_91 : decode b_Model_late 91 = .ok (.baload, 1) := by decide +kernel
theorem d_Model_late_92 : decode b_Model_late 92 = .ok (.ifCond .eq 12, 3) := by decide +kernel
theorem d_Model_late_95 : decode b_Model_late 95 = .ok (.aload_n 0, 1) := by decide +kernel
theorem d_Model_late_96 : decode b_Model_late 96 = .ok (.getfield 23, 3) := by decide +kernel
theorem d_Model_late_99 : decode b_Model_late 99 = .ok (.iload_n 1, 1) := by decide +kernel
theorem d_Model_late_100 : decode b_Model_late 100 = .ok (.baload, 1) := by decide +kernel
theorem d_Model_late_101 : decode b_Model_late 101 = .ok (.ifCond .ne 17, 3) := by decide +kernel
theorem d_Model_late_104 : decode b_Model_late 104 = .ok (.iload_n 2, 1) := by decide +kernel
theorem d_Model_late_105 : decode b_Model_late 105 = .ok (.iconst 3, 1) := by decide +kernel
theorem d_Model_late_106 : decode b_Model_late 106 = .ok (.if_icmp .ne 16, 3) := by decide +kernel
theorem d_Model_late_109 : decode b_Model_late 109 = .ok (.aload_n 0, 1) := by decide +kernel
theorem d_Model_late_110 : decode b_Model_late 110 = .ok (.getfield 23, 3) := by decide +kernel
theorem d_Model_late_113 : decode b_Model_late 113 = .ok (.iload_n 1, 1) := by decide +kernel
theorem d_Model_late_114 : decode b_Model_late 114 = .ok (.baload, 1) := by decide +kernel
theorem d_Model_late_115 : decode b_Model_late 115 = .ok (.ifCond .eq 7, 3) := by decide +kernel
theorem d_Model_late_118 : decode b_Model_late 118 = .ok (.iconst 1, 1) := by decide +kernel
theorem d_Model_late_119 : decode b_Model_late 119 = .ok (.goto 4, 3) := by decide +kernel
theorem d_Model_late_122 : decode b_Model_late 122 = .ok (.iconst 0, 1) := by decide +kernel
theorem d_Model_late_123 : decode b_Model_late 123 = .ok (.istore 4, 2) := by decide +kernel
theorem d_Model_late_125 : decode b_Model_late 125 = .ok (.iload 4, 2) := by decide +kernel
theorem d_Model_late_127 : decode b_Model_late 127 = .ok (.ifCond .eq 22, 3) := by decide +kernel
theorem d_Model_late_130 : decode b_Model_late 130 = .ok (.aload_n 0, 1) := by decide +kernel
theorem d_Model_late_131 : decode b_Model_late 131 = .ok (.getfield 7, 3) := by decide +kernel
theorem d_Model_late_134 : decode b_Model_late 134 = .ok (.iload_n 1, 1) := by decide +kernel
theorem d_Model_late_135 : decode b_Model_late 135 = .ok (.dup2, 1) := by decide +kernel
theorem d_Model_late_136 : decode b_Model_late 136 = .ok (.iaload, 1) := by decide +kernel
theorem d_Model_late_137 : decode b_Model_late 137 = .ok (.iconst 1, 1) := by decide +kernel
theorem d_Model_late_138 : decode b_Model_late 138 = .ok (.iadd, 1) := by decide +kernel
theorem d_Model_late_139 : decode b_Model_late 139 = .ok (.iastore, 1) := by decide +kernel
theorem d_Model_late_140 : decode b_Model_late 140 = .ok (.aload_n 0, 1) := by decide +kernel
theorem d_Model_late_141 : decode b_Model_late 141 = .ok (.getfield 13, 3) := by decide +kernel
theorem d_Model_late_144 : decode b_Model_late 144 = .ok (.iload_n 1, 1) := by decide +kernel
theorem d_Model_late_145 : decode b_Model_late 145 = .ok (.iconst 0, 1) := by decide +kernel
theorem d_Model_late_146 : decode b_Model_late 146 = .ok (.iastore, 1) := by decide +kernel
theorem d_Model_late_147 : decode b_Model_late 147 = .ok (.iconst 0, 1) := by decide +kernel
theorem d_Model_late_148 : decode b_Model_late 148 = .ok (.ireturn, 1) := by decide +kernel
theorem d_Model_late_149 : decode b_Model_late 149 = .ok (.iload_n 2, 1) := by decide +kernel
theorem d_Model_late_150 : decode b_Model_late 150 = .ok (.iconst 3, 1) := by decide +kernel
theorem d_Model_late_151 : decode b_Model_late 151 = .ok (.if_icmp .eq 8, 3) := by decide +kernel
theorem d_Model_late_154 : decode b_Model_late 154 = .ok (.iload_n 2, 1) := by decide +kernel
theorem d_Model_late_155 : decode b_Model_late 155 = .ok (.iconst 4, 1) := by decide +kernel
theorem d_Model_late_156 : decode b_Model_late 156 = .ok (.if_icmp .ne 14, 3) := by decide +kernel
theorem d_Model_late_159 : decode b_Model_late 159 = .ok (.aload_n 0, 1) := by decide +kernel
theorem d_Model_late_160 : decode b_Model_late 160 = .ok (.getfield 13, 3) := by decide +kernel
theorem d_Model_late_163 : decode b_Model_late 163 = .ok (.iload_n 1, 1) := by decide +kernel
theorem d_Model_late_164 : decode b_Model_late 164 = .ok (.iaload, 1) := by decide +kernel
theorem d_Model_late_165 : decode b_Model_late 165 = .ok (.bipush 12, 2) := by decide +kernel
theorem d_Model_late_167 : decode b_Model_late 167 = .ok (.if_icmp .eq 12, 3) := by decide +kernel
theorem d_Model_late_170 : decode b_Model_late 170 = .ok (.iload_n 2, 1) := by decide +kernel
theorem d_Model_late_171 : decode b_Model_late 171 = .ok (.iconst 5, 1) := by decide +kernel
theorem d_Model_late_172 : decode b_Model_late 172 = .ok (.if_icmp .ne 11, 3) := by decide +kernel
theorem d_Model_late_175 : decode b_Model_late 175 = .ok (.iload_n 3, 1) := by decide +kernel
theorem d_Model_late_176 : decode b_Model_late 176 = .ok (.ifCond .ne 7, 3) := by decide +kernel
theorem d_Model_late_179 : decode b_Model_late 179 = .ok (.iconst 1, 1) := by decide +kernel
theorem d_Model_late_180 : decode b_Model_late 180 = .ok (.goto 4, 3) := by decide +kernel
theorem d_Model_late_183 : decode b_Model_late 183 = .ok (.iconst 0, 1) := by decide +kernel
theorem d_Model_late_184 : decode b_Model_late 184 = .ok (.ireturn, 1) := by decide +kernel
theorem d_Model_canLend_0 : decode b_Model_canLend 0 = .ok (.aload_n 0, 1) := by decide +kernel
theorem d_Model_canLend_1 : decode b_Model_canLend 1 = .ok (.getfield 59, 3) := by decide +kernel
theorem d_Model_canLend_4 : decode b_Model_canLend 4 = .ok (.iconst 2, 1) := by decide +kernel
theorem d_Model_canLend_5 : decode b_Model_canLend 5 = .ok (.iload_n 1, 1) := by decide +kernel
theorem d_Model_canLend_6 : decode b_Model_canLend 6 = .ok (.imul, 1) := by decide +kernel
theorem d_Model_canLend_7 : decode b_Model_canLend 7 = .ok (.iconst 1, 1) := by decide +kernel
theorem d_Model_canLend_8 : decode b_Model_canLend 8 = .ok (.iadd, 1) := by decide +kernel
theorem d_Model_canLend_9 : decode b_Model_canLend 9 = .ok (.iaload, 1) := by decide +kernel
theorem d_Model_canLend_10 : decode b_Model_canLend 10 = .ok (.aload_n 0, 1) := by decide +kernel
theorem d_Model_canLend_11 : decode b_Model_canLend 11 = .ok (.getfield 32, 3) := by decide +kernel
theorem d_Model_canLend_14 : decode b_Model_canLend 14 = .ok (.iload_n 1, 1) := by decide +kernel
theorem d_Model_canLend_15 : decode b_Model_canLend 15 = .ok (.iaload, 1) := by decide +kernel
theorem d_Model_canLend_16 : decode b_Model_canLend 16 = .ok (.iadd, 1) := by decide +kernel
theorem d_Model_canLend_17 : decode b_Model_canLend 17 = .ok (.bipush 16, 2) := by decide +kernel
theorem d_Model_canLend_19 : decode b_Model_canLend 19 = .ok (.if_icmp .gt 7, 3) := by decide +kernel
theorem d_Model_canLend_22 : decode b_Model_canLend 22 = .ok (.iconst 1, 1) := by decide +kernel
theorem d_Model_canLend_23 : decode b_Model_canLend 23 = .ok (.goto 4, 3) := by decide +kernel
theorem d_Model_canLend_26 : decode b_Model_canLend 26 = .ok (.iconst 0, 1) := by decide +kernel
theorem d_Model_canLend_27 : decode b_Model_canLend 27 = .ok (.ireturn, 1) := by decide +kernel
theorem d_Model_choose_0 : decode b_Model_choose 0 = .ok (.aload_n 0, 1) := by decide +kernel
theorem d_Model_choose_1 : decode b_Model_choose 1 = .ok (.getfield 7, 3) := by decide +kernel
theorem d_Model_choose_4 : decode b_Model_choose 4 = .ok (.iload_n 1, 1) := by decide +kernel
theorem d_Model_choose_5 : decode b_Model_choose 5 = .ok (.iaload, 1) := by decide +kernel
theorem d_Model_choose_6 : decode b_Model_choose 6 = .ok (.iconst 5, 1) := by decide +kernel
theorem d_Model_choose_7 : decode b_Model_choose 7 = .ok (.if_icmp .ne 7, 3) := by decide +kernel
theorem d_Model_choose_10 : decode b_Model_choose 10 = .ok (.iconst 1, 1) := by decide +kernel
theorem d_Model_choose_11 : decode b_Model_choose 11 = .ok (.goto 4, 3) := by decide +kernel
theorem d_Model_choose_14 : decode b_Model_choose 14 = .ok (.iconst 0, 1) := by decide +kernel
theorem d_Model_choose_15 : decode b_Model_choose 15 = .ok (.istore_n 2, 1) := by decide +kernel
theorem d_Model_choose_16 : decode b_Model_choose 16 = .ok (.iload_n 2, 1) := by decide +kernel
theorem d_Model_choose_17 : decode b_Model_choose 17 = .ok (.ifCond .eq 35, 3) := by decide +kernel
theorem d_Model_choose_20 : decode b_Model_choose 20 = .ok (.aload_n 0, 1) := by decide +kernel
theorem d_Model_choose_21 : decode b_Model_choose 21 = .ok (.getfield 44, 3) := by decide +kernel
theorem d_Model_choose_24 : decode b_Model_choose 24 = .ok (.iload_n 1, 1) := by decide +kernel
theorem d_Model_choose_25 : decode b_Model_choose 25 = .ok (.iaload, 1) := by decide +kernel
theorem d_Model_choose_26 : decode b_Model_choose 26 = .ok (.bipush (-3), 2) := by decide +kernel
theorem d_Model_choose_28 : decode b_Model_choose 28 = .ok (.if_icmp .eq 24, 3) := by decide +kernel
theorem d_Model_choose_31 : decode b_Model_choose 31 = .ok (.sipush 260, 3) := by decide +kernel
theorem d_Model_choose_34 : decode b_Model_choose 34 = .ok (.aload_n 0, 1) := by decide +kernel
theorem d_Model_choose_35 : decode b_Model_choose 35 = .ok (.getfield 44, 3) := by decide +kernel
theorem d_Model_choose_38 : decode b_Model_choose 38 = .ok (.iload_n 1, 1) := by decide +kernel
theorem d_Model_choose_39 : decode b_Model_choose 39 = .ok (.iaload, 1) := by decide +kernel
theorem d_Model_choose_40 : decode b_Model_choose 40 = .ok (.iadd, 1) := by decide +kernel
theorem d_Model_choose_41 : decode b_Model_choose 41 = .ok (.istore_n 3, 1) := by decide +kernel
theorem d_Model_choose_42 : decode b_Model_choose 42 = .ok (.aload_n 0, 1) := by decide +kernel
theorem d_Model_choose_43 : decode b_Model_choose 43 = .ok (.getfield 44, 3) := by decide +kernel
theorem d_Model_choose_46 : decode b_Model_choose 46 = .ok (.iload_n 1, 1) := by decide +kernel
theorem d_Model_choose_47 : decode b_Model_choose 47 = .ok (.bipush (-3), 2) := by decide +kernel
theorem d_Model_choose_49 : decode b_Model_choose 49 = .ok (.iastore, 1) := by decide +kernel
theorem d_Model_choose_50 : decode b_Model_choose 50 = .ok (.iload_n 3, 1) := by decide +kernel
theorem d_Model_choose_51 : decode b_Model_choose 51 = .ok (.ireturn, 1) := by decide +kernel
theorem d_Model_choose_52 : decode b_Model_choose 52 = .ok (.aload_n 0, 1) := by decide +kernel
theorem d_Model_choose_53 : decode b_Model_choose 53 = .ok (.getfield 7, 3) := by decide +kernel
theorem d_Model_choose_56 : decode b_Model_choose 56 = .ok (.iload_n 1, 1) := by decide +kernel
theorem d_Model_choose_57 : decode b_Model_choose 57 = .ok (.iaload, 1) := by decide +kernel
theorem d_Model_choose_58 : decode b_Model_choose 58 = .ok (.iconst 3, 1) := by decide +kernel
theorem d_Model_choose_59 : decode b_Model_choose 59 = .ok (.if_icmp .eq 30, 3) := by decide +kernel
theorem d_Model_choose_62 : decode b_Model_choose 62 = .ok (.aload_n 0, 1) := by decide +kernel
theorem d_Model_choose_63 : decode b_Model_choose 63 = .ok (.iload_n 1, 1) := by decide +kernel
theorem d_Model_choose_64 : decode b_Model_choose 64 = .ok (.invokevirtual 96, 3) := by decide +kernel
theorem d_Model_choose_67 : decode b_Model_choose 67 = .ok (.ifCond .eq 22, 3) := by decide +kernel
theorem d_Model_choose_70 : decode b_Model_choose 70 = .ok (.aload_n 0, 1) := by decide +kernel
theorem d_Model_choose_71 : decode b_Model_choose 71 = .ok (.getfield 32, 3) := by decide +kernel
theorem d_Model_choose_74 : decode b_Model_choose 74 = .ok (.iload_n 1, 1) := by decide +kernel
theorem d_Model_choose_75 : decode b_Model_choose 75 = .ok (.aload_n 0, 1) := by decide +kernel
theorem d_Model_choose_76 : decode b_Model_choose 76 = .ok (.getfield 32, 3) := by decide +kernel
theorem d_Model_choose_79 : decode b_Model_choose 79 = .ok (.iload_n 1, 1) := by decide +kernel
theorem d_Model_choose_80 : decode b_Model_choose 80 = .ok (.iaload, 1) := by decide +kernel
theorem d_Model_choose_81 : decode b_Model_choose 81 = .ok (.bipush 8, 2) := by decide +kernel
theorem d_Model_choose_83 : decode b_Model_choose 83 = .ok (.iadd, 1) := by decide +kernel
theorem d_Model_choose_84 : decode b_Model_choose 84 = .ok (.iastore, 1) := by decide +kernel
theorem d_Model_choose_85 : decode b_Model_choose 85 = .ok (.sipush 258, 3) := by decide +kernel
theorem d_Model_choose_88 : decode b_Model_choose 88 = .ok (.ireturn, 1) := by decide +kernel
theorem d_Model_choose_89 : decode b_Model_choose 89 = .ok (.iload_n 2, 1) := by decide +kernel
theorem d_Model_choose_90 : decode b_Model_choose 90 = .ok (.ifCond .eq 63, 3) := by decide +kernel
theorem d_Model_choose_93 : decode b_Model_choose 93 = .ok (.aload_n 0, 1) := by decide +kernel
theorem d_Model_choose_94 : decode b_Model_choose 94 = .ok (.getfield 59, 3) := by decide +kernel
theorem d_Model_choose_97 : decode b_Model_choose 97 = .ok (.iconst 2, 1) := by decide +kernel
theorem d_Model_choose_98 : decode b_Model_choose 98 = .ok (.iload_n 1, 1) := by decide +kernel
theorem d_Model_choose_99 : decode b_Model_choose 99 = .ok (.imul, 1) := by decide +kernel
theorem d_Model_choose_100 : decode b_Model_choose 100 = .ok (.iaload, 1) := by decide +kernel
theorem d_Model_choose_101 : decode b_Model_choose 101 = .ok (.ifCond .le 52, 3) := by decide +kernel
theorem d_Model_choose_104 : decode b_Model_choose 104 = .ok (.aload_n 0, 1) := by decide +kernel
theorem d_Model_choose_105 : decode b_Model_choose 105 = .ok (.getfield 29, 3) := by decide +kernel
theorem d_Model_choose_108 : decode b_Model_choose 108 = .ok (.iload_n 1, 1) := by decide +kernel
theorem d_Model_choose_109 : decode b_Model_choose 109 = .ok (.iaload, 1) := by decide +kernel
theorem d_Model_choose_110 : decode b_Model_choose 110 = .ok (.ifCond .le 43, 3) := by decide +kernel
theorem d_Model_choose_113 : decode b_Model_choose 113 = .ok (.aload_n 0, 1) := by decide +kernel
theorem d_Model_choose_114 : decode b_Model_choose 114 = .ok (.getfield 29, 3) := by decide +kernel
theorem d_Model_choose_117 : decode b_Model_choose 117 = .ok (.iload_n 1, 1) := by decide +kernel
theorem d_Model_choose_118 : decode b_Model_choose 118 = .ok (.dup2, 1) := by decide +kernel
theorem d_Model_choose_119 : decode b_Model_choose 119 = .ok (.iaload, 1) := by decide +kernel
theorem d_Model_choose_120 : decode b_Model_choose 120 = .ok (.iconst 1, 1) := by decide +kernel
theorem d_Model_choose_121 : decode b_Model_choose 121 = .ok (.isub, 1) := by decide +kernel
theorem d_Model_choose_122 : decode b_Model_choose 122 = .ok (.iastore, 1) := by decide +kernel
theorem d_Model_choose_123 : decode b_Model_choose 123 = .ok (.aload_n 0, 1) := by decide +kernel
theorem d_Model_choose_124 : decode b_Model_choose 124 = .ok (.iconst 2, 1) := by decide +kernel
theorem d_Model_choose_125 : decode b_Model_choose 125 = .ok (.iload_n 1, 1) := by decide +kernel
theorem d_Model_choose_126 : decode b_Model_choose 126 = .ok (.imul, 1) := by decide +kernel
theorem d_Model_choose_127 : decode b_Model_choose 127 = .ok (.invokevirtual 92, 3) := by decide +kernel
theorem d_Model_choose_130 : decode b_Model_choose 130 = .ok (.istore_n 3, 1) := by decide +kernel
theorem d_Model_choose_131 : decode b_Model_choose 131 = .ok (.aload_n 0, 1) := by decide +kernel
theorem d_Model_choose_132 : decode b_Model_choose 132 = .ok (.getfield 62, 3) := by decide +kernel
theorem d_Model_choose_135 : decode b_Model_choose 135 = .ok (.iconst 2, 1) := by decide +kernel
theorem d_Model_choose_136 : decode b_Model_choose 136 = .ok (.iload_n 1, 1) := by decide +kernel
theorem d_Model_choose_137 : decode b_Model_choose 137 = .ok (.imul, 1) := by decide +kernel
theorem d_Model_choose_138 : decode b_Model_choose 138 = .ok (.iload_n 3, 1) := by decide +kernel
theorem d_Model_choose_139 : decode b_Model_choose 139 = .ok (.sipush 256, 3) := by decide +kernel
theorem d_Model_choose_142 : decode b_Model_choose 142 = .ok (.if_icmp .ge 7, 3) := by decide +kernel
theorem d_Model_choose_145 : decode b_Model_choose 145 = .ok (.iconst 1, 1) := by decide +kernel
theorem d_Model_choose_146 : decode b_Model_choose 146 = .ok (.goto 4, 3) := by decide +kernel
theorem d_Model_choose_149 : decode b_Model_choose 149 = .ok (.iconst 0, 1) := by decide +kernel
theorem d_Model_choose_150 : decode b_Model_choose 150 = .ok (.bastore, 1) := by decide +kernel
theorem d_Model_choose_151 : decode b_Model_choose 151 = .ok (.iload_n 3, 1) := by decide +kernel
theorem d_Model_choose_152 : decode b_Model_choose 152 = .ok (.ireturn, 1) := by decide +kernel
theorem d_Model_choose_153 : decode b_Model_choose 153 = .ok (.sipush 259, 3) := by decide +kernel
theorem d_Model_choose_156 : decode b_Model_choose 156 = .ok (.ireturn, 1) := by decide +kernel
theorem d_Model_send_0 : decode b_Model_send 0 = .ok (.aload_n 0, 1) := by decide +kernel
theorem d_Model_send_1 : decode b_Model_send 1 = .ok (.getfield 7, 3) := by decide +kernel
theorem d_Model_send_4 : decode b_Model_send 4 = .ok (.iload_n 1, 1) := by decide +kernel
theorem d_Model_send_5 : decode b_Model_send 5 = .ok (.iaload, 1) := by decide +kernel
theorem d_Model_send_6 : decode b_Model_send 6 = .ok (.iconst 3, 1) := by decide +kernel
theorem d_Model_send_7 : decode b_Model_send 7 = .ok (.if_icmp .lt 7, 3) := by decide +kernel
theorem d_Model_send_10 : decode b_Model_send 10 = .ok (.iconst 1, 1) := by decide +kernel
theorem d_Model_send_11 : decode b_Model_send 11 = .ok (.goto 4, 3) := by decide +kernel
theorem d_Model_send_14 : decode b_Model_send 14 = .ok (.iconst 0, 1) := by decide +kernel
theorem d_Model_send_15 : decode b_Model_send 15 = .ok (.istore_n 2, 1) := by decide +kernel
theorem d_Model_send_16 : decode b_Model_send 16 = .ok (.aload_n 0, 1) := by decide +kernel
theorem d_Model_send_17 : decode b_Model_send 17 = .ok (.getfield 50, 3) := by decide +kernel
theorem d_Model_send_20 : decode b_Model_send 20 = .ok (.iload_n 1, 1) := by decide +kernel
theorem d_Model_send_21 : decode b_Model_send 21 = .ok (.iload_n 2, 1) := by decide +kernel
theorem d_Model_send_22 : decode b_Model_send 22 = .ok (.ifCond .eq 11, 3) := by decide +kernel
theorem d_Model_send_25 : decode b_Model_send 25 = .ok (.aload_n 0, 1) := by decide +kernel
theorem d_Model_send_26 : decode b_Model_send 26 = .ok (.iload_n 1, 1) := by decide +kernel
theorem d_Model_send_27 : decode b_Model_send 27 = .ok (.invokevirtual 100, 3) := by decide +kernel
theorem d_Model_send_30 : decode b_Model_send 30 = .ok (.goto 5, 3) := by decide +kernel
theorem d_Model_send_33 : decode b_Model_send 33 = .ok (.bipush (-3), 2) := by decide +kernel
theorem d_Model_send_35 : decode b_Model_send 35 = .ok (.iastore, 1) := by decide +kernel
theorem d_Model_send_36 : decode b_Model_send 36 = .ok (.aload_n 0, 1) := by decide +kernel
theorem d_Model_send_37 : decode b_Model_send 37 = .ok (.getfield 53, 3) := by decide +kernel
theorem d_Model_send_40 : decode b_Model_send 40 = .ok (.iload_n 1, 1) := by decide +kernel
theorem d_Model_send_41 : decode b_Model_send 41 = .ok (.iload_n 2, 1) := by decide +kernel
theorem d_Model_send_42 : decode b_Model_send 42 = .ok (.ifCond .eq 16, 3) := by decide +kernel
theorem d_Model_send_45 : decode b_Model_send 45 = .ok (.aload_n 0, 1) := by decide +kernel
theorem d_Model_send_46 : decode b_Model_send 46 = .ok (.getfield 47, 3) := by decide +kernel
theorem d_Model_send_49 : decode b_Model_send 49 = .ok (.iload_n 1, 1) := by decide +kernel
theorem d_Model_send_50 : decode b_Model_send 50 = .ok (.baload, 1) := by decide +kernel
theorem d_Model_send_51 : decode b_Model_send 51 = .ok (.ifCond .eq 7, 3) := by decide +kernel
theorem d_Model_send_54 : decode b_Model_send 54 = .ok (.iconst 1, 1) := by decide +kernel
theorem d_Model_send_55 : decode b_Model_send 55 = .ok (.goto 4, 3) := by decide +kernel
theorem d_Model_send_58 : decode b_Model_send 58 = .ok (.iconst 0, 1) := by decide +kernel
theorem d_Model_send_59 : decode b_Model_send 59 = .ok (.bastore, 1) := by decide +kernel
theorem d_Model_send_60 : decode b_Model_send 60 = .ok (.aload_n 0, 1) := by decide +kernel
theorem d_Model_send_61 : decode b_Model_send 61 = .ok (.getfield 47, 3) := by decide +kernel
theorem d_Model_send_64 : decode b_Model_send 64 = .ok (.iload_n 1, 1) := by decide +kernel
theorem d_Model_send_65 : decode b_Model_send 65 = .ok (.aload_n 0, 1) := by decide +kernel
theorem d_Model_send_66 : decode b_Model_send 66 = .ok (.getfield 47, 3) := by decide +kernel
theorem d_Model_send_69 : decode b_Model_send 69 = .ok (.iload_n 1, 1) := by decide +kernel
theorem d_Model_send_70 : decode b_Model_send 70 = .ok (.baload, 1) := by decide +kernel
theorem d_Model_send_71 : decode b_Model_send 71 = .ok (.ifCond .eq 11, 3) := by decide +kernel
theorem d_Model_send_74 : decode b_Model_send 74 = .ok (.iload_n 2, 1) := by decide +kernel
theorem d_Model_send_75 : decode b_Model_send 75 = .ok (.ifCond .ne 7, 3) := by decide +kernel
theorem d_Model_send_78 : decode b_Model_send 78 = .ok (.iconst 1, 1) := by decide +kernel
theorem d_Model_send_79 : decode b_Model_send 79 = .ok (.goto 4, 3) := by decide +kernel
theorem d_Model_send_82 : decode b_Model_send 82 = .ok (.iconst 0, 1) := by decide +kernel
theorem d_Model_send_83 : decode b_Model_send 83 = .ok (.bastore, 1) := by decide +kernel
theorem d_Model_send_84 : decode b_Model_send 84 = .ok (.return_, 1) := by decide +kernel
/-! the reference's four rows in one array of 256 places -/
def szf (Ls : Nat → List Int32) : Nat → Int32 := fun j => nI (Ls j).length
def RepM (rw : Nat → Int32) (Ls : Nat → List Int32) : Prop := ∀ r, r < 4 → (Ls r).length ≤ 64 ∧ ∀ k, k < (Ls r).length → rw (64 * r + k) = (Ls r).getD k 0
theorem szf_app {Ls : Nat → List Int32} {r : Nat} {c : Int32} : upd (szf Ls) r (nI ((Ls r).length + 1)) = szf (va_up Ls r (Ls r ++ [c])) := by
  funext j
  by_cases h : j = r
  · subst h; simp [upd, szf, va_up]
  · simp [upd, szf, va_up, h]
theorem szf_tail {Ls : Nat → List Int32} {r : Nat} (h0 : 0 < (Ls r).length) : upd (szf Ls) r (nI ((Ls r).length - 1)) = szf (va_up Ls r (Ls r).tail) := by
  funext j
  by_cases h : j = r
  · subst h; simp [upd, szf, va_up]
  · simp [upd, szf, va_up, h]
theorem RepM.app {rw_ : Nat → Int32} {Ls : Nat → List Int32} (h : RepM rw_ Ls) {r : Nat} (hr : r < 4) (hl : (Ls r).length < 64) (c : Int32) : RepM (upd rw_ (64 * r + (Ls r).length) c) (va_up Ls r (Ls r ++ [c])) := by
  intro q hq
  by_cases e : q = r
  · subst e
    refine ⟨by simp [va_up]; omega, fun k hk => ?_⟩
    simp [va_up] at hk
    by_cases e2 : k = (Ls q).length
    · subst e2; simp [upd, va_up, List.getD]
    · have hk2 : k < (Ls q).length := by omega
      rw [pk_un (by omega), (h q hq).2 k hk2]
      simp [va_up, List.getD, List.getElem?_append_left hk2]
  · have hL : va_up Ls r (Ls r ++ [c]) q = Ls q := by simp [va_up, e]
    rw [hL]
    refine ⟨(h q hq).1, fun k hk => ?_⟩
    have h6 := (h q hq).1
    rw [pk_un (by omega), (h q hq).2 k hk]
theorem RepM.tail {rw_ rw1 : Nat → Int32} {Ls : Nat → List Int32} (h : RepM rw_ Ls) {r : Nat} (hr : r < 4) (hl : 0 < (Ls r).length) (hs : ∀ k, rw1 k = if 64 * r ≤ k ∧ k < 64 * r + ((Ls r).length - 1) then rw_ (k + 1) else rw_ k) : RepM rw1 (va_up Ls r (Ls r).tail) := by
  intro q hq
  by_cases e : q = r
  · subst e
    have hL : va_up Ls q (Ls q).tail q = (Ls q).tail := by simp [va_up]
    rw [hL]
    have h6 := (h q hq).1
    refine ⟨by simp; omega, fun k hk => ?_⟩
    simp at hk
    rw [hs, if_pos ⟨by omega, by omega⟩, show 64 * q + k + 1 = 64 * q + (k + 1) by omega, (h q hq).2 (k + 1) (by omega)]
    cases hc : Ls q with
    | nil => rw [hc] at hl; simp at hl
    | cons x t => simp [List.getD]
  · have hL : va_up Ls r (Ls r).tail q = Ls q := by simp [va_up, e]
    rw [hL]
    refine ⟨(h q hq).1, fun k hk => ?_⟩
    have h6 := (h q hq).1
    have h7 := (h r hr).1
    rw [hs, if_neg (by omega), (h q hq).2 k hk]
theorem RepM.head {rw_ : Nat → Int32} {Ls : Nat → List Int32} (h : RepM rw_ Ls) {r : Nat} (hr : r < 4) (hl : 0 < (Ls r).length) : rw_ (64 * r) = (Ls r).headD 0 := by
  have h1 := (h r hr).2 0 hl
  rw [Nat.add_zero] at h1
  rw [h1]
  cases hc : Ls r with
  | nil => rw [hc] at hl; simp at hl
  | cons x t => simp [List.getD]
theorem shift_step {rw_ rw1 : Nat → Int32} {r j : Nat} (hs : ∀ k, rw1 k = if 64 * r ≤ k ∧ k < 64 * r + j then rw_ (k + 1) else rw_ k) : ∀ k, upd rw1 (64 * r + j) (rw1 (64 * r + j + 1)) k = if 64 * r ≤ k ∧ k < 64 * r + (j + 1) then rw_ (k + 1) else rw_ k := by
  intro k
  by_cases e : k = 64 * r + j
  · subst e
    rw [pk_us, hs, if_neg (by omega), if_pos (by omega)]
  · rw [pk_un e, hs]
    by_cases h1 : 64 * r ≤ k ∧ k < 64 * r + j
    · rw [if_pos h1, if_pos (by omega)]
    · rw [if_neg h1, if_neg (by omega)]
def s_Model_add (Ls : Nat → List Int32) (rr : Nat) (c_ : Int32) : Nat → List Int32 := va_up Ls rr (Ls rr ++ [c_])
def s_Model_remove (Ls : Nat → List Int32) (rr : Nat) : Int32 × (Nat → List Int32) := ((Ls rr).headD 0, va_up Ls rr (Ls rr).tail)
def s_Model_isEnd (x : Int32) : Int32 := bnd (α := Int32) (if x = 0 then (1) else (if x = 1 then (1) else (0))) (fun y2 => y2)
abbrev rm_Model_isEnd : Room := { frames := 0, cells := 0, slots := 0, locals := 0 }
set_option maxHeartbeats 4000000 in
set_option maxRecDepth 100000 in
theorem c_Model_isEnd {l : Launch} {D : va_G} {cI cZ : ClassId} (x : Int32) (sz : Nat) : Met l y_Model_isEnd (w_Model_isEnd) rm_Model_isEnd (va_Pc [.int x] (xPre xNs D vwCl cI cZ [] sz)) (va_Qi (fun (r : Int32) (u : Unit) => r = s_Model_isEnd x ∧ xB r) (fun u t9 => xAt D vwCl (va_A [] sz) [] t9) (va_A [] sz)) 0 0 (va_A [] sz) := by
  refine xBody_z (S := Unit) (cc := b_Model_isEnd) (maxL := 1) (by decide) rfl (Nat.le_of_ble_eq_true rfl) ?_
  intro p e s m args below meth c A H ls Q hx hb hml hin hts hown hP hD hK hN hS hA hl hret
  replace hl : lv_has ls 1 [(0, .int x)] := hl
  have hq : s_Model_isEnd x = (bnd (α := Int32) (if x = 0 then (1) else (if x = 1 then (1) else (0))) (fun y2 => y2)) := rfl
  refine lv_iload_n hx hb d_Model_isEnd_0 rfl (lv_at hl 0 rfl) ?_
  have J1 : ∀ (y2 : Int32) (H : Heap) (locs : List Loc), y2 = (if x = 0 then (1) else (if x = 1 then (1) else (0))) → xB y2 → va_P D vwCl [] H → va_D A [] → va_S A s.heap H locs → W p l e rm_Model_isEnd s m args below meth c H locs 0 0 Q (F0 m 14 ls [.int y2]) := by
    intro y2 H locs hy2 hby2 hP hD hS
    replace hq := hq.trans (bnd_eq hy2)
    try dsimp only at hq
    exact hret y2 () ⟨hq.symm, hby2⟩ _ _ _ _ hby2 hP hD hS d_Model_isEnd_14
  have hv : ((if x = 0 then (1) else (if x = 1 then (1) else (0))) : Int32) = (if x = 0 then (1) else (if x = 1 then (1) else (0))) := rfl
  refine lv_if_eq (tgt := 9) hx hb d_Model_isEnd_1 rfl (fun h3 => ?_) (fun h3 => ?_)
  · replace hv := hv.trans (if_pos h3)
    refine lv_iconst (v := 1) hx hb d_Model_isEnd_9 rfl ?_
    refine lv_goto (tgt := 14) hx hb d_Model_isEnd_10 rfl ?_
    exact J1 _ _ _ hv.symm (Or.inr rfl) hP hD hS
  replace hv := hv.trans (if_neg h3)
  refine lv_iload_n hx hb d_Model_isEnd_4 rfl (lv_at hl 0 rfl) ?_
  refine lv_iconst (v := 1) hx hb d_Model_isEnd_5 rfl ?_
  refine lv_icmp_ne (tgt := 13) hx hb d_Model_isEnd_6 rfl (fun h4 => ?_) (fun h4 => ?_)
  · replace hv := hv.trans (if_neg h4)
    refine lv_iconst (v := 0) hx hb d_Model_isEnd_13 rfl ?_
    exact J1 _ _ _ hv.symm (Or.inl rfl) hP hD hS
  replace hv := hv.trans (if_pos h4)
  refine lv_iconst (v := 1) hx hb d_Model_isEnd_9 rfl ?_
  refine lv_goto (tgt := 14) hx hb d_Model_isEnd_10 rfl ?_
  exact J1 _ _ _ hv.symm (Or.inr rfl) hP hD hS

def s_Model_fits (x : Int32) (y : Int32) : Int32 := bnd (α := Int32) (if x < 0 then (0) else (if y < x then (0) else (1))) (fun y2 => y2)
abbrev rm_Model_fits : Room := { frames := 0, cells := 0, slots := 0, locals := 0 }
set_option maxHeartbeats 4000000 in
set_option maxRecDepth 100000 in
theorem c_Model_fits {l : Launch} {D : va_G} {cI cZ : ClassId} (x : Int32) (y : Int32) (sz : Nat) : Met l y_Model_fits (w_Model_fits) rm_Model_fits (va_Pc [.int x, .int y] (xPre xNs D vwCl cI cZ [] sz)) (va_Qi (fun (r : Int32) (u : Unit) => r = s_Model_fits x y ∧ xB r) (fun u t9 => xAt D vwCl (va_A [] sz) [] t9) (va_A [] sz)) 0 0 (va_A [] sz) := by
  refine xBody_z (S := Unit) (cc := b_Model_fits) (maxL := 2) (by decide) rfl (Nat.le_of_ble_eq_true rfl) ?_
  intro p e s m args below meth c A H ls Q hx hb hml hin hts hown hP hD hK hN hS hA hl hret
  replace hl : lv_has ls 2 [(0, .int x), (1, .int y)] := hl
  have hq : s_Model_fits x y = (bnd (α := Int32) (if x < 0 then (0) else (if y < x then (0) else (1))) (fun y2 => y2)) := rfl
  refine lv_iload_n hx hb d_Model_fits_0 rfl (lv_at hl 0 rfl) ?_
  have J1 : ∀ (y2 : Int32) (H : Heap) (locs : List Loc), y2 = (if x < 0 then (0) else (if y < x then (0) else (1))) → xB y2 → va_P D vwCl [] H → va_D A [] → va_S A s.heap H locs → W p l e rm_Model_fits s m args below meth c H locs 0 0 Q (F0 m 14 ls [.int y2]) := by
    intro y2 H locs hy2 hby2 hP hD hS
    replace hq := hq.trans (bnd_eq hy2)
    try dsimp only at hq
    exact hret y2 () ⟨hq.symm, hby2⟩ _ _ _ _ hby2 hP hD hS d_Model_fits_14
  have hv : ((if x < 0 then (0) else (if y < x then (0) else (1))) : Int32) = (if x < 0 then (0) else (if y < x then (0) else (1))) := rfl
  refine lv_if_lt (tgt := 13) hx hb d_Model_fits_1 rfl (fun h3 => ?_) (fun h3 => ?_)
  · replace hv := hv.trans (if_pos h3)
    refine lv_iconst (v := 0) hx hb d_Model_fits_13 rfl ?_
    exact J1 _ _ _ hv.symm (Or.inl rfl) hP hD hS
  replace hv := hv.trans (if_neg h3)
  refine lv_iload_n hx hb d_Model_fits_4 rfl (lv_at hl 0 rfl) ?_
  refine lv_iload_n hx hb d_Model_fits_5 rfl (lv_at hl 1 rfl) ?_
  refine lv_icmp_gt (tgt := 13) hx hb d_Model_fits_6 rfl (fun h4 => ?_) (fun h4 => ?_)
  · replace hv := hv.trans (if_pos h4)
    refine lv_iconst (v := 0) hx hb d_Model_fits_13 rfl ?_
    exact J1 _ _ _ hv.symm (Or.inl rfl) hP hD hS
  replace hv := hv.trans (if_neg h4)
  refine lv_iconst (v := 1) hx hb d_Model_fits_9 rfl ?_
  refine lv_goto (tgt := 14) hx hb d_Model_fits_10 rfl ?_
  exact J1 _ _ _ hv.symm (Or.inr rfl) hP hD hS

def s_Model_mixed (x : Int32) (y : Int32) : Int32 := bnd (α := Int32) (if ((x ^^^ y) - (x ^^^ y) / 2 * 2) = 1 then (((x ^^^ y) / 2) ^^^ 224) else ((x ^^^ y) / 2)) (fun y2 => bnd (α := Int32) (if (y2 - y2 / 2 * 2) = 1 then ((y2 / 2) ^^^ 224) else (y2 / 2)) (fun y4 => bnd (α := Int32) (if (y4 - y4 / 2 * 2) = 1 then ((y4 / 2) ^^^ 224) else (y4 / 2)) (fun y6 => bnd (α := Int32) (if (y6 - y6 / 2 * 2) = 1 then ((y6 / 2) ^^^ 224) else (y6 / 2)) (fun y8 => bnd (α := Int32) (if (y8 - y8 / 2 * 2) = 1 then ((y8 / 2) ^^^ 224) else (y8 / 2)) (fun y10 => bnd (α := Int32) (if (y10 - y10 / 2 * 2) = 1 then ((y10 / 2) ^^^ 224) else (y10 / 2)) (fun y12 => bnd (α := Int32) (if (y12 - y12 / 2 * 2) = 1 then ((y12 / 2) ^^^ 224) else (y12 / 2)) (fun y14 => bnd (α := Int32) (if (y14 - y14 / 2 * 2) = 1 then ((y14 / 2) ^^^ 224) else (y14 / 2)) (fun y16 => y16))))))))
abbrev rm_Model_mixed : Room := { frames := 0, cells := 0, slots := 0, locals := 0 }
set_option maxHeartbeats 4000000 in
set_option maxRecDepth 100000 in
theorem c_Model_mixed {l : Launch} {D : va_G} {cI cZ : ClassId} (x : Int32) (y : Int32) (sz : Nat) : Met l y_Model_mixed (w_Model_mixed) rm_Model_mixed (va_Pc [.int x, .int y] (xPre xNs D vwCl cI cZ [] sz)) (va_Qi (fun (r : Int32) (u : Unit) => r = s_Model_mixed x y) (fun u t9 => xAt D vwCl (va_A [] sz) [] t9) (va_A [] sz)) 0 0 (va_A [] sz) := by
  refine xBody_i (S := Unit) (cc := b_Model_mixed) (maxL := 5) (by decide) rfl (Nat.le_of_ble_eq_true rfl) ?_
  intro p e s m args below meth c A H ls Q hx hb hml hin hts hown hP hD hK hN hS hA hl hret
  replace hl : lv_has ls 5 [(0, .int x), (1, .int y)] := hl
  have hq : s_Model_mixed x y = (bnd (α := Int32) (if ((x ^^^ y) - (x ^^^ y) / 2 * 2) = 1 then (((x ^^^ y) / 2) ^^^ 224) else ((x ^^^ y) / 2)) (fun y2 => bnd (α := Int32) (if (y2 - y2 / 2 * 2) = 1 then ((y2 / 2) ^^^ 224) else (y2 / 2)) (fun y4 => bnd (α := Int32) (if (y4 - y4 / 2 * 2) = 1 then ((y4 / 2) ^^^ 224) else (y4 / 2)) (fun y6 => bnd (α := Int32) (if (y6 - y6 / 2 * 2) = 1 then ((y6 / 2) ^^^ 224) else (y6 / 2)) (fun y8 => bnd (α := Int32) (if (y8 - y8 / 2 * 2) = 1 then ((y8 / 2) ^^^ 224) else (y8 / 2)) (fun y10 => bnd (α := Int32) (if (y10 - y10 / 2 * 2) = 1 then ((y10 / 2) ^^^ 224) else (y10 / 2)) (fun y12 => bnd (α := Int32) (if (y12 - y12 / 2 * 2) = 1 then ((y12 / 2) ^^^ 224) else (y12 / 2)) (fun y14 => bnd (α := Int32) (if (y14 - y14 / 2 * 2) = 1 then ((y14 / 2) ^^^ 224) else (y14 / 2)) (fun y16 => y16))))))))) := rfl
  refine lv_iload_n hx hb d_Model_mixed_0 rfl (lv_at hl 0 rfl) ?_
  refine lv_iload_n hx hb d_Model_mixed_1 rfl (lv_at hl 1 rfl) ?_
  refine lv_ixor hx hb d_Model_mixed_2 ?_
  refine lv_istore_n hx hb d_Model_mixed_3 rfl hl (by decide) rfl (fun ls hl => ?_)
  replace hl : lv_has ls 5 [(2, .int (x ^^^ y)), (0, .int x), (1, .int y)] := hl
  refine lv_iconst (v := 0) hx hb d_Model_mixed_4 rfl ?_
  refine lv_istore_n hx hb d_Model_mixed_5 rfl hl (by decide) rfl (fun ls hl => ?_)
  replace hl : lv_has ls 5 [(3, .int 0), (2, .int (x ^^^ y)), (0, .int x), (1, .int y)] := hl
  refine lv_iload_n hx hb d_Model_mixed_6 rfl (lv_at hl 0 rfl) ?_
  refine lv_bipush (v := 8) hx hb d_Model_mixed_7 rfl ?_
  refine lv_icmp_ge (tgt := 42) hx hb d_Model_mixed_9 rfl (fun h9 => absurd h9 (by decide)) (fun _ => ?_)
  refine lv_iload_n hx hb d_Model_mixed_12 rfl (lv_at hl 1 rfl) ?_
  refine lv_iconst (v := 2) hx hb d_Model_mixed_13 rfl ?_
  refine lv_idiv hx hb d_Model_mixed_14 (by decide) ?_
  refine lv_istore hx hb d_Model_mixed_15 hl (by decide) rfl (fun ls hl => ?_)
  replace hl : lv_has ls 5 [(4, .int ((x ^^^ y) / 2)), (3, .int 0), (2, .int (x ^^^ y)), (0, .int x), (1, .int y)] := hl
  refine lv_iload_n hx hb d_Model_mixed_17 rfl (lv_at hl 2 rfl) ?_
  refine lv_iconst (v := 2) hx hb d_Model_mixed_18 rfl ?_
  refine lv_irem hx hb d_Model_mixed_19 (by decide) ?_
  refine lv_iconst (v := 1) hx hb d_Model_mixed_20 rfl ?_
  have J1 : ∀ (y2 : Int32) (H : Heap) (locs : List Loc), y2 = (if ((x ^^^ y) - (x ^^^ y) / 2 * 2) = 1 then (((x ^^^ y) / 2) ^^^ 224) else ((x ^^^ y) / 2)) → va_P D vwCl [] H → va_D A [] → va_S A s.heap H locs → W p l e rm_Model_mixed s m args below meth c H locs 0 0 Q (F0 m 35 ls [.int y2]) := by
    intro y2 H locs hy2 hP hD hS
    replace hq := hq.trans (bnd_eq hy2)
    try dsimp only at hq
    refine lv_istore_n hx hb d_Model_mixed_35 rfl hl (by decide) rfl (fun ls hl => ?_)
    replace hl : lv_has ls 5 [(2, .int y2), (4, .int ((x ^^^ y) / 2)), (3, .int 0), (0, .int x), (1, .int y)] := hl
    refine lv_iinc (k := 2) (v := 1) hx hb d_Model_mixed_36 hl rfl rfl (by decide) rfl (fun ls hl => ?_)
    replace hl : lv_has ls 5 [(3, .int 1), (2, .int y2), (4, .int ((x ^^^ y) / 2)), (0, .int x), (1, .int y)] := hl
    refine lv_goto (tgt := 6) hx hb d_Model_mixed_39 rfl ?_
    refine lv_iload_n hx hb d_Model_mixed_6 rfl (lv_at hl 0 rfl) ?_
    refine lv_bipush (v := 8) hx hb d_Model_mixed_7 rfl ?_
    refine lv_icmp_ge (tgt := 42) hx hb d_Model_mixed_9 rfl (fun h9 => absurd h9 (by decide)) (fun _ => ?_)
    refine lv_iload_n hx hb d_Model_mixed_12 rfl (lv_at hl 1 rfl) ?_
    refine lv_iconst (v := 2) hx hb d_Model_mixed_13 rfl ?_
    refine lv_idiv hx hb d_Model_mixed_14 (by decide) ?_
    refine lv_istore hx hb d_Model_mixed_15 hl (by decide) rfl (fun ls hl => ?_)
    replace hl : lv_has ls 5 [(4, .int (y2 / 2)), (3, .int 1), (2, .int y2), (0, .int x), (1, .int y)] := hl
    refine lv_iload_n hx hb d_Model_mixed_17 rfl (lv_at hl 2 rfl) ?_
    refine lv_iconst (v := 2) hx hb d_Model_mixed_18 rfl ?_
    refine lv_irem hx hb d_Model_mixed_19 (by decide) ?_
    refine lv_iconst (v := 1) hx hb d_Model_mixed_20 rfl ?_
    have J3 : ∀ (y4 : Int32) (H : Heap) (locs : List Loc), y4 = (if (y2 - y2 / 2 * 2) = 1 then ((y2 / 2) ^^^ 224) else (y2 / 2)) → va_P D vwCl [] H → va_D A [] → va_S A s.heap H locs → W p l e rm_Model_mixed s m args below meth c H locs 0 0 Q (F0 m 35 ls [.int y4]) := by
      intro y4 H locs hy4 hP hD hS
      replace hq := hq.trans (bnd_eq hy4)
      try dsimp only at hq
      refine lv_istore_n hx hb d_Model_mixed_35 rfl hl (by decide) rfl (fun ls hl => ?_)
      replace hl : lv_has ls 5 [(2, .int y4), (4, .int (y2 / 2)), (3, .int 1), (0, .int x), (1, .int y)] := hl
      refine lv_iinc (k := 2) (v := 2) hx hb d_Model_mixed_36 hl rfl rfl (by decide) rfl (fun ls hl => ?_)
      replace hl : lv_has ls 5 [(3, .int 2), (2, .int y4), (4, .int (y2 / 2)), (0, .int x), (1, .int y)] := hl
      refine lv_goto (tgt := 6) hx hb d_Model_mixed_39 rfl ?_
      refine lv_iload_n hx hb d_Model_mixed_6 rfl (lv_at hl 0 rfl) ?_
      refine lv_bipush (v := 8) hx hb d_Model_mixed_7 rfl ?_
      refine lv_icmp_ge (tgt := 42) hx hb d_Model_mixed_9 rfl (fun h9 => absurd h9 (by decide)) (fun _ => ?_)
      refine lv_iload_n hx hb d_Model_mixed_12 rfl (lv_at hl 1 rfl) ?_
      refine lv_iconst (v := 2) hx hb d_Model_mixed_13 rfl ?_
      refine lv_idiv hx hb d_Model_mixed_14 (by decide) ?_
      refine lv_istore hx hb d_Model_mixed_15 hl (by decide) rfl (fun ls hl => ?_)
      replace hl : lv_has ls 5 [(4, .int (y4 / 2)), (3, .int 2), (2, .int y4), (0, .int x), (1, .int y)] := hl
      refine lv_iload_n hx hb d_Model_mixed_17 rfl (lv_at hl 2 rfl) ?_
      refine lv_iconst (v := 2) hx hb d_Model_mixed_18 rfl ?_
      refine lv_irem hx hb d_Model_mixed_19 (by decide) ?_
      refine lv_iconst (v := 1) hx hb d_Model_mixed_20 rfl ?_
      have J5 : ∀ (y6 : Int32) (H : Heap) (locs : List Loc), y6 = (if (y4 - y4 / 2 * 2) = 1 then ((y4 / 2) ^^^ 224) else (y4 / 2)) → va_P D vwCl [] H → va_D A [] → va_S A s.heap H locs → W p l e rm_Model_mixed s m args below meth c H locs 0 0 Q (F0 m 35 ls [.int y6]) := by
        intro y6 H locs hy6 hP hD hS
        replace hq := hq.trans (bnd_eq hy6)
        try dsimp only at hq
        refine lv_istore_n hx hb d_Model_mixed_35 rfl hl (by decide) rfl (fun ls hl => ?_)
        replace hl : lv_has ls 5 [(2, .int y6), (4, .int (y4 / 2)), (3, .int 2), (0, .int x), (1, .int y)] := hl
        refine lv_iinc (k := 2) (v := 3) hx hb d_Model_mixed_36 hl rfl rfl (by decide) rfl (fun ls hl => ?_)
        replace hl : lv_has ls 5 [(3, .int 3), (2, .int y6), (4, .int (y4 / 2)), (0, .int x), (1, .int y)] := hl
        refine lv_goto (tgt := 6) hx hb d_Model_mixed_39 rfl ?_
        refine lv_iload_n hx hb d_Model_mixed_6 rfl (lv_at hl 0 rfl) ?_
        refine lv_bipush (v := 8) hx hb d_Model_mixed_7 rfl ?_
        refine lv_icmp_ge (tgt := 42) hx hb d_Model_mixed_9 rfl (fun h9 => absurd h9 (by decide)) (fun _ => ?_)
        refine lv_iload_n hx hb d_Model_mixed_12 rfl (lv_at hl 1 rfl) ?_
        refine lv_iconst (v := 2) hx hb d_Model_mixed_13 rfl ?_
        refine lv_idiv hx hb d_Model_mixed_14 (by decide) ?_
        refine lv_istore hx hb d_Model_mixed_15 hl (by decide) rfl (fun ls hl => ?_)
        replace hl : lv_has ls 5 [(4, .int (y6 / 2)), (3, .int 3), (2, .int y6), (0, .int x), (1, .int y)] := hl
        refine lv_iload_n hx hb d_Model_mixed_17 rfl (lv_at hl 2 rfl) ?_
        refine lv_iconst (v := 2) hx hb d_Model_mixed_18 rfl ?_
        refine lv_irem hx hb d_Model_mixed_19 (by decide) ?_
        refine lv_iconst (v := 1) hx hb d_Model_mixed_20 rfl ?_
        have J7 : ∀ (y8 : Int32) (H : Heap) (locs : List Loc), y8 = (if (y6 - y6 / 2 * 2) = 1 then ((y6 / 2) ^^^ 224) else (y6 / 2)) → va_P D vwCl [] H → va_D A [] → va_S A s.heap H locs → W p l e rm_Model_mixed s m args below meth c H locs 0 0 Q (F0 m 35 ls [.int y8]) := by
          intro y8 H locs hy8 hP hD hS
          replace hq := hq.trans (bnd_eq hy8)
          try dsimp only at hq
          refine lv_istore_n hx hb d_Model_mixed_35 rfl hl (by decide) rfl (fun ls hl => ?_)
          replace hl : lv_has ls 5 [(2, .int y8), (4, .int (y6 / 2)), (3, .int 3), (0, .int x), (1, .int y)] := hl
          refine lv_iinc (k := 2) (v := 4) hx hb d_Model_mixed_36 hl rfl rfl (by decide) rfl (fun ls hl => ?_)
          replace hl : lv_has ls 5 [(3, .int 4), (2, .int y8), (4, .int (y6 / 2)), (0, .int x), (1, .int y)] := hl
          refine lv_goto (tgt := 6) hx hb d_Model_mixed_39 rfl ?_
          refine lv_iload_n hx hb d_Model_mixed_6 rfl (lv_at hl 0 rfl) ?_
          refine lv_bipush (v := 8) hx hb d_Model_mixed_7 rfl ?_
          refine lv_icmp_ge (tgt := 42) hx hb d_Model_mixed_9 rfl (fun h9 => absurd h9 (by decide)) (fun _ => ?_)
          refine lv_iload_n hx hb d_Model_mixed_12 rfl (lv_at hl 1 rfl) ?_
          refine lv_iconst (v := 2) hx hb d_Model_mixed_13 rfl ?_
          refine lv_idiv hx hb d_Model_mixed_14 (by decide) ?_
          refine lv_istore hx hb d_Model_mixed_15 hl (by decide) rfl (fun ls hl => ?_)
          replace hl : lv_has ls 5 [(4, .int (y8 / 2)), (3, .int 4), (2, .int y8), (0, .int x), (1, .int y)] := hl
          refine lv_iload_n hx hb d_Model_mixed_17 rfl (lv_at hl 2 rfl) ?_
          refine lv_iconst (v := 2) hx hb d_Model_mixed_18 rfl ?_
          refine lv_irem hx hb d_Model_mixed_19 (by decide) ?_
          refine lv_iconst (v := 1) hx hb d_Model_mixed_20 rfl ?_
          have J9 : ∀ (y10 : Int32) (H : Heap) (locs : List Loc), y10 = (if (y8 - y8 / 2 * 2) = 1 then ((y8 / 2) ^^^ 224) else (y8 / 2)) → va_P D vwCl [] H → va_D A [] → va_S A s.heap H locs → W p l e rm_Model_mixed s m args below meth c H locs 0 0 Q (F0 m 35 ls [.int y10]) := by
            intro y10 H locs hy10 hP hD hS
            replace hq := hq.trans (bnd_eq hy10)
            try dsimp only at hq
            refine lv_istore_n hx hb d_Model_mixed_35 rfl hl (by decide) rfl (fun ls hl => ?_)
            replace hl : lv_has ls 5 [(2, .int y10), (4, .int (y8 / 2)), (3, .int 4), (0, .int x), (1, .int y)] := hl
            refine lv_iinc (k := 2) (v := 5) hx hb d_Model_mixed_36 hl rfl rfl (by decide) rfl (fun ls hl => ?_)
            replace hl : lv_has ls 5 [(3, .int 5), (2, .int y10), (4, .int (y8 / 2)), (0, .int x), (1, .int y)] := hl
            refine lv_goto (tgt := 6) hx hb d_Model_mixed_39 rfl ?_
            refine lv_iload_n hx hb d_Model_mixed_6 rfl (lv_at hl 0 rfl) ?_
            refine lv_bipush (v := 8) hx hb d_Model_mixed_7 rfl ?_
            refine lv_icmp_ge (tgt := 42) hx hb d_Model_mixed_9 rfl (fun h9 => absurd h9 (by decide)) (fun _ => ?_)
            refine lv_iload_n hx hb d_Model_mixed_12 rfl (lv_at hl 1 rfl) ?_
            refine lv_iconst (v := 2) hx hb d_Model_mixed_13 rfl ?_
            refine lv_idiv hx hb d_Model_mixed_14 (by decide) ?_
            refine lv_istore hx hb d_Model_mixed_15 hl (by decide) rfl (fun ls hl => ?_)
            replace hl : lv_has ls 5 [(4, .int (y10 / 2)), (3, .int 5), (2, .int y10), (0, .int x), (1, .int y)] := hl
            refine lv_iload_n hx hb d_Model_mixed_17 rfl (lv_at hl 2 rfl) ?_
            refine lv_iconst (v := 2) hx hb d_Model_mixed_18 rfl ?_
            refine lv_irem hx hb d_Model_mixed_19 (by decide) ?_
            refine lv_iconst (v := 1) hx hb d_Model_mixed_20 rfl ?_
            have J11 : ∀ (y12 : Int32) (H : Heap) (locs : List Loc), y12 = (if (y10 - y10 / 2 * 2) = 1 then ((y10 / 2) ^^^ 224) else (y10 / 2)) → va_P D vwCl [] H → va_D A [] → va_S A s.heap H locs → W p l e rm_Model_mixed s m args below meth c H locs 0 0 Q (F0 m 35 ls [.int y12]) := by
              intro y12 H locs hy12 hP hD hS
              replace hq := hq.trans (bnd_eq hy12)
              try dsimp only at hq
              refine lv_istore_n hx hb d_Model_mixed_35 rfl hl (by decide) rfl (fun ls hl => ?_)
              replace hl : lv_has ls 5 [(2, .int y12), (4, .int (y10 / 2)), (3, .int 5), (0, .int x), (1, .int y)] := hl
              refine lv_iinc (k := 2) (v := 6) hx hb d_Model_mixed_36 hl rfl rfl (by decide) rfl (fun ls hl => ?_)
              replace hl : lv_has ls 5 [(3, .int 6), (2, .int y12), (4, .int (y10 / 2)), (0, .int x), (1, .int y)] := hl
              refine lv_goto (tgt := 6) hx hb d_Model_mixed_39 rfl ?_
              refine lv_iload_n hx hb d_Model_mixed_6 rfl (lv_at hl 0 rfl) ?_
              refine lv_bipush (v := 8) hx hb d_Model_mixed_7 rfl ?_
              refine lv_icmp_ge (tgt := 42) hx hb d_Model_mixed_9 rfl (fun h9 => absurd h9 (by decide)) (fun _ => ?_)
              refine lv_iload_n hx hb d_Model_mixed_12 rfl (lv_at hl 1 rfl) ?_
              refine lv_iconst (v := 2) hx hb d_Model_mixed_13 rfl ?_
              refine lv_idiv hx hb d_Model_mixed_14 (by decide) ?_
              refine lv_istore hx hb d_Model_mixed_15 hl (by decide) rfl (fun ls hl => ?_)
              replace hl : lv_has ls 5 [(4, .int (y12 / 2)), (3, .int 6), (2, .int y12), (0, .int x), (1, .int y)] := hl
              refine lv_iload_n hx hb d_Model_mixed_17 rfl (lv_at hl 2 rfl) ?_
              refine lv_iconst (v := 2) hx hb d_Model_mixed_18 rfl ?_
              refine lv_irem hx hb d_Model_mixed_19 (by decide) ?_
              refine lv_iconst (v := 1) hx hb d_Model_mixed_20 rfl ?_
              have J13 : ∀ (y14 : Int32) (H : Heap) (locs : List Loc), y14 = (if (y12 - y12 / 2 * 2) = 1 then ((y12 / 2) ^^^ 224) else (y12 / 2)) → va_P D vwCl [] H → va_D A [] → va_S A s.heap H locs → W p l e rm_Model_mixed s m args below meth c H locs 0 0 Q (F0 m 35 ls [.int y14]) := by
                intro y14 H locs hy14 hP hD hS
                replace hq := hq.trans (bnd_eq hy14)
                try dsimp only at hq
                refine lv_istore_n hx hb d_Model_mixed_35 rfl hl (by decide) rfl (fun ls hl => ?_)
                replace hl : lv_has ls 5 [(2, .int y14), (4, .int (y12 / 2)), (3, .int 6), (0, .int x), (1, .int y)] := hl
                refine lv_iinc (k := 2) (v := 7) hx hb d_Model_mixed_36 hl rfl rfl (by decide) rfl (fun ls hl => ?_)
                replace hl : lv_has ls 5 [(3, .int 7), (2, .int y14), (4, .int (y12 / 2)), (0, .int x), (1, .int y)] := hl
                refine lv_goto (tgt := 6) hx hb d_Model_mixed_39 rfl ?_
                refine lv_iload_n hx hb d_Model_mixed_6 rfl (lv_at hl 0 rfl) ?_
                refine lv_bipush (v := 8) hx hb d_Model_mixed_7 rfl ?_
                refine lv_icmp_ge (tgt := 42) hx hb d_Model_mixed_9 rfl (fun h9 => absurd h9 (by decide)) (fun _ => ?_)
                refine lv_iload_n hx hb d_Model_mixed_12 rfl (lv_at hl 1 rfl) ?_
                refine lv_iconst (v := 2) hx hb d_Model_mixed_13 rfl ?_
                refine lv_idiv hx hb d_Model_mixed_14 (by decide) ?_
                refine lv_istore hx hb d_Model_mixed_15 hl (by decide) rfl (fun ls hl => ?_)
                replace hl : lv_has ls 5 [(4, .int (y14 / 2)), (3, .int 7), (2, .int y14), (0, .int x), (1, .int y)] := hl
                refine lv_iload_n hx hb d_Model_mixed_17 rfl (lv_at hl 2 rfl) ?_
                refine lv_iconst (v := 2) hx hb d_Model_mixed_18 rfl ?_
                refine lv_irem hx hb d_Model_mixed_19 (by decide) ?_
                refine lv_iconst (v := 1) hx hb d_Model_mixed_20 rfl ?_
                have J15 : ∀ (y16 : Int32) (H : Heap) (locs : List Loc), y16 = (if (y14 - y14 / 2 * 2) = 1 then ((y14 / 2) ^^^ 224) else (y14 / 2)) → va_P D vwCl [] H → va_D A [] → va_S A s.heap H locs → W p l e rm_Model_mixed s m args below meth c H locs 0 0 Q (F0 m 35 ls [.int y16]) := by
                  intro y16 H locs hy16 hP hD hS
                  replace hq := hq.trans (bnd_eq hy16)
                  try dsimp only at hq
                  refine lv_istore_n hx hb d_Model_mixed_35 rfl hl (by decide) rfl (fun ls hl => ?_)
                  replace hl : lv_has ls 5 [(2, .int y16), (4, .int (y14 / 2)), (3, .int 7), (0, .int x), (1, .int y)] := hl
                  refine lv_iinc (k := 2) (v := 8) hx hb d_Model_mixed_36 hl rfl rfl (by decide) rfl (fun ls hl => ?_)
                  replace hl : lv_has ls 5 [(3, .int 8), (2, .int y16), (4, .int (y14 / 2)), (0, .int x), (1, .int y)] := hl
                  refine lv_goto (tgt := 6) hx hb d_Model_mixed_39 rfl ?_
                  refine lv_iload_n hx hb d_Model_mixed_6 rfl (lv_at hl 0 rfl) ?_
                  refine lv_bipush (v := 8) hx hb d_Model_mixed_7 rfl ?_
                  refine lv_icmp_ge (tgt := 42) hx hb d_Model_mixed_9 rfl (fun _ => ?_) (fun h9 => absurd h9 (by decide))
                  refine lv_iload_n hx hb d_Model_mixed_42 rfl (lv_at hl 1 rfl) ?_
                  exact hret y16 () hq.symm _ _ _ _ hP hD hS d_Model_mixed_43
                have hv : ((if (y14 - y14 / 2 * 2) = 1 then ((y14 / 2) ^^^ 224) else (y14 / 2)) : Int32) = (if (y14 - y14 / 2 * 2) = 1 then ((y14 / 2) ^^^ 224) else (y14 / 2)) := rfl
                refine lv_icmp_ne (tgt := 33) hx hb d_Model_mixed_21 rfl (fun h17 => ?_) (fun h17 => ?_)
                · replace hv := hv.trans (if_neg h17)
                  refine lv_iload hx hb d_Model_mixed_33 (lv_at hl 0 rfl) ?_
                  exact J15 _ _ _ hv.symm hP hD hS
                replace hv := hv.trans (if_pos h17)
                refine lv_iload hx hb d_Model_mixed_24 (lv_at hl 0 rfl) ?_
                refine lv_sipush (v := 224) hx hb d_Model_mixed_26 rfl ?_
                refine lv_ixor hx hb d_Model_mixed_29 ?_
                refine lv_goto (tgt := 35) hx hb d_Model_mixed_30 rfl ?_
                exact J15 _ _ _ hv.symm hP hD hS
              have hv : ((if (y12 - y12 / 2 * 2) = 1 then ((y12 / 2) ^^^ 224) else (y12 / 2)) : Int32) = (if (y12 - y12 / 2 * 2) = 1 then ((y12 / 2) ^^^ 224) else (y12 / 2)) := rfl
              refine lv_icmp_ne (tgt := 33) hx hb d_Model_mixed_21 rfl (fun h18 => ?_) (fun h18 => ?_)
              · replace hv := hv.trans (if_neg h18)
                refine lv_iload hx hb d_Model_mixed_33 (lv_at hl 0 rfl) ?_
                exact J13 _ _ _ hv.symm hP hD hS
              replace hv := hv.trans (if_pos h18)
              refine lv_iload hx hb d_Model_mixed_24 (lv_at hl 0 rfl) ?_
              refine lv_sipush (v := 224) hx hb d_Model_mixed_26 rfl ?_
              refine lv_ixor hx hb d_Model_mixed_29 ?_
              refine lv_goto (tgt := 35) hx hb d_Model_mixed_30 rfl ?_
              exact J13 _ _ _ hv.symm hP hD hS
            have hv : ((if (y10 - y10 / 2 * 2) = 1 then ((y10 / 2) ^^^ 224) else (y10 / 2)) : Int32) = (if (y10 - y10 / 2 * 2) = 1 then ((y10 / 2) ^^^ 224) else (y10 / 2)) := rfl
            refine lv_icmp_ne (tgt := 33) hx hb d_Model_mixed_21 rfl (fun h19 => ?_) (fun h19 => ?_)
            · replace hv := hv.trans (if_neg h19)
              refine lv_iload hx hb d_Model_mixed_33 (lv_at hl 0 rfl) ?_
              exact J11 _ _ _ hv.symm hP hD hS
            replace hv := hv.trans (if_pos h19)
            refine lv_iload hx hb d_Model_mixed_24 (lv_at hl 0 rfl) ?_
            refine lv_sipush (v := 224) hx hb d_Model_mixed_26 rfl ?_
            refine lv_ixor hx hb d_Model_mixed_29 ?_
            refine lv_goto (tgt := 35) hx hb d_Model_mixed_30 rfl ?_
            exact J11 _ _ _ hv.symm hP hD hS
          have hv : ((if (y8 - y8 / 2 * 2) = 1 then ((y8 / 2) ^^^ 224) else (y8 / 2)) : Int32) = (if (y8 - y8 / 2 * 2) = 1 then ((y8 / 2) ^^^ 224) else (y8 / 2)) := rfl
          refine lv_icmp_ne (tgt := 33) hx hb d_Model_mixed_21 rfl (fun h20 => ?_) (fun h20 => ?_)
          · replace hv := hv.trans (if_neg h20)
            refine lv_iload hx hb d_Model_mixed_33 (lv_at hl 0 rfl) ?_
            exact J9 _ _ _ hv.symm hP hD hS
          replace hv := hv.trans (if_pos h20)
          refine lv_iload hx hb d_Model_mixed_24 (lv_at hl 0 rfl) ?_
          refine lv_sipush (v := 224) hx hb d_Model_mixed_26 rfl ?_
          refine lv_ixor hx hb d_Model_mixed_29 ?_
          refine lv_goto (tgt := 35) hx hb d_Model_mixed_30 rfl ?_
          exact J9 _ _ _ hv.symm hP hD hS
        have hv : ((if (y6 - y6 / 2 * 2) = 1 then ((y6 / 2) ^^^ 224) else (y6 / 2)) : Int32) = (if (y6 - y6 / 2 * 2) = 1 then ((y6 / 2) ^^^ 224) else (y6 / 2)) := rfl
        refine lv_icmp_ne (tgt := 33) hx hb d_Model_mixed_21 rfl (fun h21 => ?_) (fun h21 => ?_)
        · replace hv := hv.trans (if_neg h21)
          refine lv_iload hx hb d_Model_mixed_33 (lv_at hl 0 rfl) ?_
          exact J7 _ _ _ hv.symm hP hD hS
        replace hv := hv.trans (if_pos h21)
        refine lv_iload hx hb d_Model_mixed_24 (lv_at hl 0 rfl) ?_
        refine lv_sipush (v := 224) hx hb d_Model_mixed_26 rfl ?_
        refine lv_ixor hx hb d_Model_mixed_29 ?_
        refine lv_goto (tgt := 35) hx hb d_Model_mixed_30 rfl ?_
        exact J7 _ _ _ hv.symm hP hD hS
      have hv : ((if (y4 - y4 / 2 * 2) = 1 then ((y4 / 2) ^^^ 224) else (y4 / 2)) : Int32) = (if (y4 - y4 / 2 * 2) = 1 then ((y4 / 2) ^^^ 224) else (y4 / 2)) := rfl
      refine lv_icmp_ne (tgt := 33) hx hb d_Model_mixed_21 rfl (fun h22 => ?_) (fun h22 => ?_)
      · replace hv := hv.trans (if_neg h22)
        refine lv_iload hx hb d_Model_mixed_33 (lv_at hl 0 rfl) ?_
        exact J5 _ _ _ hv.symm hP hD hS
      replace hv := hv.trans (if_pos h22)
      refine lv_iload hx hb d_Model_mixed_24 (lv_at hl 0 rfl) ?_
      refine lv_sipush (v := 224) hx hb d_Model_mixed_26 rfl ?_
      refine lv_ixor hx hb d_Model_mixed_29 ?_
      refine lv_goto (tgt := 35) hx hb d_Model_mixed_30 rfl ?_
      exact J5 _ _ _ hv.symm hP hD hS
    have hv : ((if (y2 - y2 / 2 * 2) = 1 then ((y2 / 2) ^^^ 224) else (y2 / 2)) : Int32) = (if (y2 - y2 / 2 * 2) = 1 then ((y2 / 2) ^^^ 224) else (y2 / 2)) := rfl
    refine lv_icmp_ne (tgt := 33) hx hb d_Model_mixed_21 rfl (fun h23 => ?_) (fun h23 => ?_)
    · replace hv := hv.trans (if_neg h23)
      refine lv_iload hx hb d_Model_mixed_33 (lv_at hl 0 rfl) ?_
      exact J3 _ _ _ hv.symm hP hD hS
    replace hv := hv.trans (if_pos h23)
    refine lv_iload hx hb d_Model_mixed_24 (lv_at hl 0 rfl) ?_
    refine lv_sipush (v := 224) hx hb d_Model_mixed_26 rfl ?_
    refine lv_ixor hx hb d_Model_mixed_29 ?_
    refine lv_goto (tgt := 35) hx hb d_Model_mixed_30 rfl ?_
    exact J3 _ _ _ hv.symm hP hD hS
  have hv : ((if ((x ^^^ y) - (x ^^^ y) / 2 * 2) = 1 then (((x ^^^ y) / 2) ^^^ 224) else ((x ^^^ y) / 2)) : Int32) = (if ((x ^^^ y) - (x ^^^ y) / 2 * 2) = 1 then (((x ^^^ y) / 2) ^^^ 224) else ((x ^^^ y) / 2)) := rfl
  refine lv_icmp_ne (tgt := 33) hx hb d_Model_mixed_21 rfl (fun h24 => ?_) (fun h24 => ?_)
  · replace hv := hv.trans (if_neg h24)
    refine lv_iload hx hb d_Model_mixed_33 (lv_at hl 0 rfl) ?_
    exact J1 _ _ _ hv.symm hP hD hS
  replace hv := hv.trans (if_pos h24)
  refine lv_iload hx hb d_Model_mixed_24 (lv_at hl 0 rfl) ?_
  refine lv_sipush (v := 224) hx hb d_Model_mixed_26 rfl ?_
  refine lv_ixor hx hb d_Model_mixed_29 ?_
  refine lv_goto (tgt := 35) hx hb d_Model_mixed_30 rfl ?_
  exact J1 _ _ _ hv.symm hP hD hS

abbrev rm_Model_add : Room := { frames := 0, cells := 0, slots := 0, locals := 0 }
set_option maxHeartbeats 4000000 in
set_option maxRecDepth 100000 in
theorem c_Model_add {l : Launch} {D : va_G} {cI cZ : ClassId} (Ls : Nat → List Int32) (rr : Nat) (c_ : Int32) (h0 : Nat) (a_st : Nat) (a_ck : Nat) (a_en : Nat) (a_au : Nat) (a_he : Nat) (a_qu : Nat) (a_lo : Nat) (a_ow : Nat) (a_fl : Nat) (a_ti : Nat) (a_gd : Nat) (a_ak : Nat) (a_sp : Nat) (a_se : Nat) (a_sd : Nat) (a_rw : Nat) (a_sz : Nat) (a_op : Nat) (a_th : Nat) (a_me : Nat) (a_pk : Nat) (a_re : Nat) (a_dr : Nat) (tg : Int32) (kc : Nat) (cm : Int32) (su : Int32) (kq : Nat) (rw : Nat → Int32) (hM : RepM rw Ls) (hrr : rr < 4) (hlen : (Ls rr).length < 64) (sz : Nat) : Met l y_Model_add (w_Model_add) rm_Model_add (va_Pc [.ref h0, .int (nI rr), .int c_] (xPre xNs D vwCl cI cZ [(h0, .inr (7, [.int tg, .ref a_st, .ref a_ck, .ref a_en, .ref a_au, .ref a_he, .ref a_qu, .ref a_lo, .ref a_ow, .ref a_fl, .ref a_ti, .ref a_gd, .ref a_ak, .ref a_sp, .ref a_se, .ref a_sd, .ref a_rw, .ref a_sz, .ref a_op, .ref a_th, .ref a_me, .ref a_pk, .int (nI kc), .int cm, .int su, .ref a_re, .int (nI kq), .ref a_dr])), (a_rw, .inl (cI, 256, .inl rw)), (a_sz, .inl (cI, 4, .inl (szf Ls)))] sz)) (va_Qv (fun (u : (Nat → List Int32) × (Nat → Int32)) => u.1 = s_Model_add Ls rr c_ ∧ RepM u.2 u.1) (fun u t9 => xAt D vwCl (va_A [(h0, .inr (7, [.int tg, .ref a_st, .ref a_ck, .ref a_en, .ref a_au, .ref a_he, .ref a_qu, .ref a_lo, .ref a_ow, .ref a_fl, .ref a_ti, .ref a_gd, .ref a_ak, .ref a_sp, .ref a_se, .ref a_sd, .ref a_rw, .ref a_sz, .ref a_op, .ref a_th, .ref a_me, .ref a_pk, .int (nI kc), .int cm, .int su, .ref a_re, .int (nI kq), .ref a_dr])), (a_rw, .inl (cI, 256, .inl rw)), (a_sz, .inl (cI, 4, .inl (szf Ls)))] sz) [(h0, .inr (7, [.int tg, .ref a_st, .ref a_ck, .ref a_en, .ref a_au, .ref a_he, .ref a_qu, .ref a_lo, .ref a_ow, .ref a_fl, .ref a_ti, .ref a_gd, .ref a_ak, .ref a_sp, .ref a_se, .ref a_sd, .ref a_rw, .ref a_sz, .ref a_op, .ref a_th, .ref a_me, .ref a_pk, .int (nI kc), .int cm, .int su, .ref a_re, .int (nI kq), .ref a_dr])), (a_rw, .inl (cI, 256, .inl u.2)), (a_sz, .inl (cI, 4, .inl (szf u.1)))] t9) (va_A [(h0, .inr (7, [.int tg, .ref a_st, .ref a_ck, .ref a_en, .ref a_au, .ref a_he, .ref a_qu, .ref a_lo, .ref a_ow, .ref a_fl, .ref a_ti, .ref a_gd, .ref a_ak, .ref a_sp, .ref a_se, .ref a_sd, .ref a_rw, .ref a_sz, .ref a_op, .ref a_th, .ref a_me, .ref a_pk, .int (nI kc), .int cm, .int su, .ref a_re, .int (nI kq), .ref a_dr])), (a_rw, .inl (cI, 256, .inl rw)), (a_sz, .inl (cI, 4, .inl (szf Ls)))] sz)) 0 0 (va_A [(h0, .inr (7, [.int tg, .ref a_st, .ref a_ck, .ref a_en, .ref a_au, .ref a_he, .ref a_qu, .ref a_lo, .ref a_ow, .ref a_fl, .ref a_ti, .ref a_gd, .ref a_ak, .ref a_sp, .ref a_se, .ref a_sd, .ref a_rw, .ref a_sz, .ref a_op, .ref a_th, .ref a_me, .ref a_pk, .int (nI kc), .int cm, .int su, .ref a_re, .int (nI kq), .ref a_dr])), (a_rw, .inl (cI, 256, .inl rw)), (a_sz, .inl (cI, 4, .inl (szf Ls)))] sz) := by
  refine xBody_v (S := (Nat → List Int32) × (Nat → Int32)) (cc := b_Model_add) (maxL := 3) (by decide) rfl (Nat.le_of_ble_eq_true rfl) ?_
  intro p e s m args below meth c A H ls Q hx hb hml hin hts hown hP hD hK hN hS hA hl hret
  replace hl : lv_has ls 3 [(0, .ref h0), (1, .int (nI rr)), (2, .int c_)] := hl
  have hin_Model : ∀ w ∈ u_ws R_Model F_Model 28, w ∈ (w_Model_add) := (fun w h => xm (lay_Model w h))
  refine lv_aload_n hx hb d_Model_add_0 rfl (lv_at hl 0 rfl) ?_
  refine va_get (D := D) (ci := 7) (v := .ref a_rw) (C := R_Model) (T := F_Model) (N := 28) hx hb hts hin_Model hown hK hP 0 rfl rfl 16 (by decide) (hts _ (xm ww_549)) (fun _ h9 => h9) rfl d_Model_add_1 ?_
  refine lv_bipush (v := 64) hx hb d_Model_add_4 rfl ?_
  refine lv_iload_n hx hb d_Model_add_6 rfl (lv_at hl 1 rfl) ?_
  refine lv_imul hx hb d_Model_add_7 ?_
  refine xtop (y := nI (64 * rr)) (pk_mul 64 rr) ?_
  refine lv_aload_n hx hb d_Model_add_8 rfl (lv_at hl 0 rfl) ?_
  refine va_get (D := D) (ci := 7) (v := .ref a_sz) (C := R_Model) (T := F_Model) (N := 28) hx hb hts hin_Model hown hK hP 0 rfl rfl 17 (by decide) (hts _ (xm ww_550)) (fun _ h9 => h9) rfl d_Model_add_9 ?_
  refine lv_iload_n hx hb d_Model_add_12 rfl (lv_at hl 1 rfl) ?_
  refine xiald (k := rr) hx hb hK hP 2 0 rfl rfl rfl hrr (by decide) d_Model_add_13 ?_
  refine xtop (y := nI ((Ls rr).length)) rfl ?_
  refine lv_iadd hx hb d_Model_add_14 ?_
  refine xtop (y := nI (64 * rr + ((Ls rr).length))) (nI_add (64 * rr) ((Ls rr).length)) ?_
  refine lv_iload_n hx hb d_Model_add_15 rfl (lv_at hl 2 rfl) ?_
  refine xiast (k := (64 * rr + ((Ls rr).length))) hx hb hK hP hD hS 1 0 rfl rfl rfl (by omega) (by decide) d_Model_add_16 (fun H locs hP hD hS => ?_)
  replace hP : va_P D vwCl [(h0, .inr (7, [.int tg, .ref a_st, .ref a_ck, .ref a_en, .ref a_au, .ref a_he, .ref a_qu, .ref a_lo, .ref a_ow, .ref a_fl, .ref a_ti, .ref a_gd, .ref a_ak, .ref a_sp, .ref a_se, .ref a_sd, .ref a_rw, .ref a_sz, .ref a_op, .ref a_th, .ref a_me, .ref a_pk, .int (nI kc), .int cm, .int su, .ref a_re, .int (nI kq), .ref a_dr])), (a_rw, .inl (cI, 256, .inl (upd rw (64 * rr + ((Ls rr).length)) c_))), (a_sz, .inl (cI, 4, .inl (szf Ls)))] H := hP
  replace hD : va_D A [(h0, .inr (7, [.int tg, .ref a_st, .ref a_ck, .ref a_en, .ref a_au, .ref a_he, .ref a_qu, .ref a_lo, .ref a_ow, .ref a_fl, .ref a_ti, .ref a_gd, .ref a_ak, .ref a_sp, .ref a_se, .ref a_sd, .ref a_rw, .ref a_sz, .ref a_op, .ref a_th, .ref a_me, .ref a_pk, .int (nI kc), .int cm, .int su, .ref a_re, .int (nI kq), .ref a_dr])), (a_rw, .inl (cI, 256, .inl (upd rw (64 * rr + ((Ls rr).length)) c_))), (a_sz, .inl (cI, 4, .inl (szf Ls)))] := hD
  refine lv_aload_n hx hb d_Model_add_17 rfl (lv_at hl 0 rfl) ?_
  refine va_get (D := D) (ci := 7) (v := .ref a_sz) (C := R_Model) (T := F_Model) (N := 28) hx hb hts hin_Model hown hK hP 0 rfl rfl 17 (by decide) (hts _ (xm ww_550)) (fun _ h9 => h9) rfl d_Model_add_18 ?_
  refine lv_iload_n hx hb d_Model_add_21 rfl (lv_at hl 1 rfl) ?_
  refine lv_dup2_11 hx hb d_Model_add_22 rfl rfl ?_
  refine xiald (k := rr) hx hb hK hP 2 0 rfl rfl rfl hrr (by decide) d_Model_add_23 ?_
  refine xtop (y := nI ((Ls rr).length)) rfl ?_
  refine lv_iconst (v := 1) hx hb d_Model_add_24 rfl ?_
  refine lv_iadd hx hb d_Model_add_25 ?_
  refine xtop (y := nI (((Ls rr).length) + 1)) (nI_add ((Ls rr).length) 1) ?_
  refine xiast (k := rr) hx hb hK hP hD hS 2 0 rfl rfl rfl hrr (by decide) d_Model_add_26 (fun H locs hP hD hS => ?_)
  replace hP : va_P D vwCl [(h0, .inr (7, [.int tg, .ref a_st, .ref a_ck, .ref a_en, .ref a_au, .ref a_he, .ref a_qu, .ref a_lo, .ref a_ow, .ref a_fl, .ref a_ti, .ref a_gd, .ref a_ak, .ref a_sp, .ref a_se, .ref a_sd, .ref a_rw, .ref a_sz, .ref a_op, .ref a_th, .ref a_me, .ref a_pk, .int (nI kc), .int cm, .int su, .ref a_re, .int (nI kq), .ref a_dr])), (a_rw, .inl (cI, 256, .inl (upd rw (64 * rr + ((Ls rr).length)) c_))), (a_sz, .inl (cI, 4, .inl (upd (szf Ls) rr (nI (((Ls rr).length) + 1)))))] H := hP
  replace hD : va_D A [(h0, .inr (7, [.int tg, .ref a_st, .ref a_ck, .ref a_en, .ref a_au, .ref a_he, .ref a_qu, .ref a_lo, .ref a_ow, .ref a_fl, .ref a_ti, .ref a_gd, .ref a_ak, .ref a_sp, .ref a_se, .ref a_sd, .ref a_rw, .ref a_sz, .ref a_op, .ref a_th, .ref a_me, .ref a_pk, .int (nI kc), .int cm, .int su, .ref a_re, .int (nI kq), .ref a_dr])), (a_rw, .inl (cI, 256, .inl (upd rw (64 * rr + ((Ls rr).length)) c_))), (a_sz, .inl (cI, 4, .inl (upd (szf Ls) rr (nI (((Ls rr).length) + 1)))))] := hD
  rw [szf_app (c := c_)] at hP hD
  exact hret (va_up Ls rr (Ls rr ++ [c_]), upd rw (64 * rr + (Ls rr).length) c_) ⟨rfl, hM.app hrr hlen c_⟩ _ _ _ _ hP hD hS d_Model_add_27

abbrev rm_Model_remove : Room := { frames := 0, cells := 0, slots := 0, locals := 0 }
set_option maxHeartbeats 4000000 in
set_option maxRecDepth 100000 in
theorem c_Model_remove {l : Launch} {D : va_G} {cI cZ : ClassId} (Ls : Nat → List Int32) (rr : Nat) (h0 : Nat) (a_st : Nat) (a_ck : Nat) (a_en : Nat) (a_au : Nat) (a_he : Nat) (a_qu : Nat) (a_lo : Nat) (a_ow : Nat) (a_fl : Nat) (a_ti : Nat) (a_gd : Nat) (a_ak : Nat) (a_sp : Nat) (a_se : Nat) (a_sd : Nat) (a_rw : Nat) (a_sz : Nat) (a_op : Nat) (a_th : Nat) (a_me : Nat) (a_pk : Nat) (a_re : Nat) (a_dr : Nat) (tg : Int32) (kc : Nat) (cm : Int32) (su : Int32) (kq : Nat) (rw : Nat → Int32) (hM : RepM rw Ls) (hrr : rr < 4) (hlen : 0 < (Ls rr).length) (sz : Nat) : Met l y_Model_remove (w_Model_remove) rm_Model_remove (va_Pc [.ref h0, .int (nI rr)] (xPre xNs D vwCl cI cZ [(h0, .inr (7, [.int tg, .ref a_st, .ref a_ck, .ref a_en, .ref a_au, .ref a_he, .ref a_qu, .ref a_lo, .ref a_ow, .ref a_fl, .ref a_ti, .ref a_gd, .ref a_ak, .ref a_sp, .ref a_se, .ref a_sd, .ref a_rw, .ref a_sz, .ref a_op, .ref a_th, .ref a_me, .ref a_pk, .int (nI kc), .int cm, .int su, .ref a_re, .int (nI kq), .ref a_dr])), (a_rw, .inl (cI, 256, .inl rw)), (a_sz, .inl (cI, 4, .inl (szf Ls)))] sz)) (va_Qi (fun (r : Int32) (u : (Nat → List Int32) × (Nat → Int32)) => (r, u.1) = s_Model_remove Ls rr ∧ RepM u.2 u.1) (fun u t9 => xAt D vwCl (va_A [(h0, .inr (7, [.int tg, .ref a_st, .ref a_ck, .ref a_en, .ref a_au, .ref a_he, .ref a_qu, .ref a_lo, .ref a_ow, .ref a_fl, .ref a_ti, .ref a_gd, .ref a_ak, .ref a_sp, .ref a_se, .ref a_sd, .ref a_rw, .ref a_sz, .ref a_op, .ref a_th, .ref a_me, .ref a_pk, .int (nI kc), .int cm, .int su, .ref a_re, .int (nI kq), .ref a_dr])), (a_rw, .inl (cI, 256, .inl rw)), (a_sz, .inl (cI, 4, .inl (szf Ls)))] sz) [(h0, .inr (7, [.int tg, .ref a_st, .ref a_ck, .ref a_en, .ref a_au, .ref a_he, .ref a_qu, .ref a_lo, .ref a_ow, .ref a_fl, .ref a_ti, .ref a_gd, .ref a_ak, .ref a_sp, .ref a_se, .ref a_sd, .ref a_rw, .ref a_sz, .ref a_op, .ref a_th, .ref a_me, .ref a_pk, .int (nI kc), .int cm, .int su, .ref a_re, .int (nI kq), .ref a_dr])), (a_rw, .inl (cI, 256, .inl u.2)), (a_sz, .inl (cI, 4, .inl (szf u.1)))] t9) (va_A [(h0, .inr (7, [.int tg, .ref a_st, .ref a_ck, .ref a_en, .ref a_au, .ref a_he, .ref a_qu, .ref a_lo, .ref a_ow, .ref a_fl, .ref a_ti, .ref a_gd, .ref a_ak, .ref a_sp, .ref a_se, .ref a_sd, .ref a_rw, .ref a_sz, .ref a_op, .ref a_th, .ref a_me, .ref a_pk, .int (nI kc), .int cm, .int su, .ref a_re, .int (nI kq), .ref a_dr])), (a_rw, .inl (cI, 256, .inl rw)), (a_sz, .inl (cI, 4, .inl (szf Ls)))] sz)) 0 0 (va_A [(h0, .inr (7, [.int tg, .ref a_st, .ref a_ck, .ref a_en, .ref a_au, .ref a_he, .ref a_qu, .ref a_lo, .ref a_ow, .ref a_fl, .ref a_ti, .ref a_gd, .ref a_ak, .ref a_sp, .ref a_se, .ref a_sd, .ref a_rw, .ref a_sz, .ref a_op, .ref a_th, .ref a_me, .ref a_pk, .int (nI kc), .int cm, .int su, .ref a_re, .int (nI kq), .ref a_dr])), (a_rw, .inl (cI, 256, .inl rw)), (a_sz, .inl (cI, 4, .inl (szf Ls)))] sz) := by
  refine xBody_i (S := (Nat → List Int32) × (Nat → Int32)) (cc := b_Model_remove) (maxL := 4) (by decide) rfl (Nat.le_of_ble_eq_true rfl) ?_
  intro p e s m args below meth c A H ls Q hx hb hml hin hts hown hP hD hK hN hS hA hl hret
  replace hl : lv_has ls 4 [(0, .ref h0), (1, .int (nI rr))] := hl
  have hin_Model : ∀ w ∈ u_ws R_Model F_Model 28, w ∈ (w_Model_remove) := (fun w h => xm (lay_Model w h))
  refine lv_aload_n hx hb d_Model_remove_0 rfl (lv_at hl 0 rfl) ?_
  refine va_get (D := D) (ci := 7) (v := .ref a_rw) (C := R_Model) (T := F_Model) (N := 28) hx hb hts hin_Model hown hK hP 0 rfl rfl 16 (by decide) (hts _ (xm ww_549)) (fun _ h9 => h9) rfl d_Model_remove_1 ?_
  refine lv_bipush (v := 64) hx hb d_Model_remove_4 rfl ?_
  refine lv_iload_n hx hb d_Model_remove_6 rfl (lv_at hl 1 rfl) ?_
  refine lv_imul hx hb d_Model_remove_7 ?_
  refine xtop (y := nI (64 * rr)) (pk_mul 64 rr) ?_
  refine xiald (k := (64 * rr)) hx hb hK hP 1 0 rfl rfl rfl (by omega) (by decide) d_Model_remove_8 ?_
  refine lv_istore_n hx hb d_Model_remove_9 rfl hl (by decide) rfl (fun ls hl => ?_)
  replace hl : lv_has ls 4 [(2, .int (rw (64 * rr))), (0, .ref h0), (1, .int (nI rr))] := hl
  refine lv_aload_n hx hb d_Model_remove_10 rfl (lv_at hl 1 rfl) ?_
  refine va_get (D := D) (ci := 7) (v := .ref a_sz) (C := R_Model) (T := F_Model) (N := 28) hx hb hts hin_Model hown hK hP 0 rfl rfl 17 (by decide) (hts _ (xm ww_550)) (fun _ h9 => h9) rfl d_Model_remove_11 ?_
  refine lv_iload_n hx hb d_Model_remove_14 rfl (lv_at hl 2 rfl) ?_
  refine lv_dup2_11 hx hb d_Model_remove_15 rfl rfl ?_
  refine xiald (k := rr) hx hb hK hP 2 0 rfl rfl rfl hrr (by decide) d_Model_remove_16 ?_
  refine xtop (y := nI ((Ls rr).length)) rfl ?_
  refine lv_iconst (v := 1) hx hb d_Model_remove_17 rfl ?_
  refine lv_isub hx hb d_Model_remove_18 ?_
  refine xtop (y := nI (((Ls rr).length) - 1)) (xsub1 hlen) ?_
  refine xiast (k := rr) hx hb hK hP hD hS 2 0 rfl rfl rfl hrr (by decide) d_Model_remove_19 (fun H locs hP hD hS => ?_)
  replace hP : va_P D vwCl [(h0, .inr (7, [.int tg, .ref a_st, .ref a_ck, .ref a_en, .ref a_au, .ref a_he, .ref a_qu, .ref a_lo, .ref a_ow, .ref a_fl, .ref a_ti, .ref a_gd, .ref a_ak, .ref a_sp, .ref a_se, .ref a_sd, .ref a_rw, .ref a_sz, .ref a_op, .ref a_th, .ref a_me, .ref a_pk, .int (nI kc), .int cm, .int su, .ref a_re, .int (nI kq), .ref a_dr])), (a_rw, .inl (cI, 256, .inl rw)), (a_sz, .inl (cI, 4, .inl (upd (szf Ls) rr (nI (((Ls rr).length) - 1)))))] H := hP
  replace hD : va_D A [(h0, .inr (7, [.int tg, .ref a_st, .ref a_ck, .ref a_en, .ref a_au, .ref a_he, .ref a_qu, .ref a_lo, .ref a_ow, .ref a_fl, .ref a_ti, .ref a_gd, .ref a_ak, .ref a_sp, .ref a_se, .ref a_sd, .ref a_rw, .ref a_sz, .ref a_op, .ref a_th, .ref a_me, .ref a_pk, .int (nI kc), .int cm, .int su, .ref a_re, .int (nI kq), .ref a_dr])), (a_rw, .inl (cI, 256, .inl rw)), (a_sz, .inl (cI, 4, .inl (upd (szf Ls) rr (nI (((Ls rr).length) - 1)))))] := hD
  rw [szf_tail hlen] at hP hD
  obtain ⟨Ls1, hLs1⟩ : ∃ z, z = va_up Ls rr (Ls rr).tail := ⟨_, rfl⟩
  rw [← hLs1] at hP hD
  have hln1 : (Ls1 rr).length + 1 = (Ls rr).length := by rw [hLs1]; simp [va_up]; omega
  have hM64 := (hM rr hrr).1
  replace hP : va_P D vwCl [(h0, .inr (7, [.int tg, .ref a_st, .ref a_ck, .ref a_en, .ref a_au, .ref a_he, .ref a_qu, .ref a_lo, .ref a_ow, .ref a_fl, .ref a_ti, .ref a_gd, .ref a_ak, .ref a_sp, .ref a_se, .ref a_sd, .ref a_rw, .ref a_sz, .ref a_op, .ref a_th, .ref a_me, .ref a_pk, .int (nI kc), .int cm, .int su, .ref a_re, .int (nI kq), .ref a_dr])), (a_rw, .inl (cI, 256, .inl rw)), (a_sz, .inl (cI, 4, .inl (szf Ls1)))] H := hP
  replace hD : va_D A [(h0, .inr (7, [.int tg, .ref a_st, .ref a_ck, .ref a_en, .ref a_au, .ref a_he, .ref a_qu, .ref a_lo, .ref a_ow, .ref a_fl, .ref a_ti, .ref a_gd, .ref a_ak, .ref a_sp, .ref a_se, .ref a_sd, .ref a_rw, .ref a_sz, .ref a_op, .ref a_th, .ref a_me, .ref a_pk, .int (nI kc), .int cm, .int su, .ref a_re, .int (nI kq), .ref a_dr])), (a_rw, .inl (cI, 256, .inl rw)), (a_sz, .inl (cI, 4, .inl (szf Ls1)))] := hD
  refine lv_iconst (v := 0) hx hb d_Model_remove_20 rfl ?_
  refine lv_istore_n hx hb d_Model_remove_21 rfl hl (by decide) rfl (fun ls hl => ?_)
  replace hl : lv_has ls 4 [(3, .int 0), (2, .int (rw (64 * rr))), (0, .ref h0), (1, .int (nI rr))] := hl
  have LPlp_remove : ∀ (nlp_remove : Nat) (j : Nat) (rw1 : Nat → Int32) (ls : Array Slot) (H : Heap) (locs : List Loc), (j ≤ (Ls1 rr).length) → (∀ k, rw1 k = if 64 * rr ≤ k ∧ k < 64 * rr + j then rw (k + 1) else rw k) → (Ls1 rr).length - j ≤ nlp_remove → lv_has ls 4 [(0, .ref h0), (1, .int (nI rr)), (2, .int (rw (64 * rr))), (3, .int (nI j))] → va_P D vwCl [(h0, .inr (7, [.int tg, .ref a_st, .ref a_ck, .ref a_en, .ref a_au, .ref a_he, .ref a_qu, .ref a_lo, .ref a_ow, .ref a_fl, .ref a_ti, .ref a_gd, .ref a_ak, .ref a_sp, .ref a_se, .ref a_sd, .ref a_rw, .ref a_sz, .ref a_op, .ref a_th, .ref a_me, .ref a_pk, .int (nI kc), .int cm, .int su, .ref a_re, .int (nI kq), .ref a_dr])), (a_rw, .inl (cI, 256, .inl rw1)), (a_sz, .inl (cI, 4, .inl (szf Ls1)))] H → va_D A [(h0, .inr (7, [.int tg, .ref a_st, .ref a_ck, .ref a_en, .ref a_au, .ref a_he, .ref a_qu, .ref a_lo, .ref a_ow, .ref a_fl, .ref a_ti, .ref a_gd, .ref a_ak, .ref a_sp, .ref a_se, .ref a_sd, .ref a_rw, .ref a_sz, .ref a_op, .ref a_th, .ref a_me, .ref a_pk, .int (nI kc), .int cm, .int su, .ref a_re, .int (nI kq), .ref a_dr])), (a_rw, .inl (cI, 256, .inl rw1)), (a_sz, .inl (cI, 4, .inl (szf Ls1)))] → va_S A s.heap H locs → W p l e rm_Model_remove s m args below meth c H locs 0 0 Q (F0 m 22 ls []) := by
    intro nlp_remove
    induction nlp_remove with
    | zero =>
      intro j rw1 ls H locs hj hsh hmlp_remove hl hP hD hS
      skip
      refine lv_iload_n hx hb d_Model_remove_22 rfl (lv_at hl 3 rfl) ?_
      refine lv_aload_n hx hb d_Model_remove_23 rfl (lv_at hl 0 rfl) ?_
      refine va_get (D := D) (ci := 7) (v := .ref a_sz) (C := R_Model) (T := F_Model) (N := 28) hx hb hts hin_Model hown hK hP 0 rfl rfl 17 (by decide) (hts _ (xm ww_550)) (fun _ h9 => h9) rfl d_Model_remove_24 ?_
      refine lv_iload_n hx hb d_Model_remove_27 rfl (lv_at hl 1 rfl) ?_
      refine xiald (k := rr) hx hb hK hP 2 0 rfl rfl rfl hrr (by decide) d_Model_remove_28 ?_
      refine xtop (y := nI ((Ls1 rr).length)) rfl ?_
      refine lv_icmp_ge (tgt := 62) hx hb d_Model_remove_29 rfl (fun h1 => ?_) (fun h1 => ?_)
      rotate_left
      · exact absurd (nI_le (by omega) (by omega)) h1
      refine lv_iload_n hx hb d_Model_remove_62 rfl (lv_at hl 2 rfl) ?_
      have hje : j = (Ls rr).length - 1 := by
        rcases Nat.lt_or_ge j (Ls1 rr).length with h8 | h8
        · exact absurd h1 (nI_ge h8 (by omega))
        · omega
      rw [hje] at hsh
      rw [hLs1] at hP hD
      exact hret (rw (64 * rr)) (va_up Ls rr (Ls rr).tail, rw1) ⟨by rw [hM.head hrr hlen]; rfl, hM.tail hrr hlen hsh⟩ _ _ _ _ hP hD hS d_Model_remove_63
    | succ nlp_remove ihlp_remove =>
      intro j rw1 ls H locs hj hsh hmlp_remove hl hP hD hS
      skip
      refine lv_iload_n hx hb d_Model_remove_22 rfl (lv_at hl 3 rfl) ?_
      refine lv_aload_n hx hb d_Model_remove_23 rfl (lv_at hl 0 rfl) ?_
      refine va_get (D := D) (ci := 7) (v := .ref a_sz) (C := R_Model) (T := F_Model) (N := 28) hx hb hts hin_Model hown hK hP 0 rfl rfl 17 (by decide) (hts _ (xm ww_550)) (fun _ h9 => h9) rfl d_Model_remove_24 ?_
      refine lv_iload_n hx hb d_Model_remove_27 rfl (lv_at hl 1 rfl) ?_
      refine xiald (k := rr) hx hb hK hP 2 0 rfl rfl rfl hrr (by decide) d_Model_remove_28 ?_
      refine xtop (y := nI ((Ls1 rr).length)) rfl ?_
      refine lv_icmp_ge (tgt := 62) hx hb d_Model_remove_29 rfl (fun h2 => ?_) (fun h2 => ?_)
      · skip
        refine lv_iload_n hx hb d_Model_remove_62 rfl (lv_at hl 2 rfl) ?_
        have hje : j = (Ls rr).length - 1 := by
          rcases Nat.lt_or_ge j (Ls1 rr).length with h8 | h8
          · exact absurd h2 (nI_ge h8 (by omega))
          · omega
        rw [hje] at hsh
        rw [hLs1] at hP hD
        exact hret (rw (64 * rr)) (va_up Ls rr (Ls rr).tail, rw1) ⟨by rw [hM.head hrr hlen]; rfl, hM.tail hrr hlen hsh⟩ _ _ _ _ hP hD hS d_Model_remove_63
      have hjl : j < (Ls1 rr).length := Nat.lt_of_not_le fun h9 => h2 (nI_le h9 (by omega))
      refine lv_aload_n hx hb d_Model_remove_32 rfl (lv_at hl 0 rfl) ?_
      refine va_get (D := D) (ci := 7) (v := .ref a_rw) (C := R_Model) (T := F_Model) (N := 28) hx hb hts hin_Model hown hK hP 0 rfl rfl 16 (by decide) (hts _ (xm ww_549)) (fun _ h9 => h9) rfl d_Model_remove_33 ?_
      refine lv_bipush (v := 64) hx hb d_Model_remove_36 rfl ?_
      refine lv_iload_n hx hb d_Model_remove_38 rfl (lv_at hl 1 rfl) ?_
      refine lv_imul hx hb d_Model_remove_39 ?_
      refine xtop (y := nI (64 * rr)) (pk_mul 64 rr) ?_
      refine lv_iload_n hx hb d_Model_remove_40 rfl (lv_at hl 3 rfl) ?_
      refine lv_iadd hx hb d_Model_remove_41 ?_
      refine xtop (y := nI (64 * rr + j)) (nI_add (64 * rr) j) ?_
      refine lv_aload_n hx hb d_Model_remove_42 rfl (lv_at hl 0 rfl) ?_
      refine va_get (D := D) (ci := 7) (v := .ref a_rw) (C := R_Model) (T := F_Model) (N := 28) hx hb hts hin_Model hown hK hP 0 rfl rfl 16 (by decide) (hts _ (xm ww_549)) (fun _ h9 => h9) rfl d_Model_remove_43 ?_
      refine lv_bipush (v := 64) hx hb d_Model_remove_46 rfl ?_
      refine lv_iload_n hx hb d_Model_remove_48 rfl (lv_at hl 1 rfl) ?_
      refine lv_imul hx hb d_Model_remove_49 ?_
      refine xtop (y := nI (64 * rr)) (pk_mul 64 rr) ?_
      refine lv_iload_n hx hb d_Model_remove_50 rfl (lv_at hl 3 rfl) ?_
      refine lv_iadd hx hb d_Model_remove_51 ?_
      refine xtop (y := nI (64 * rr + j)) (nI_add (64 * rr) j) ?_
      refine lv_iconst (v := 1) hx hb d_Model_remove_52 rfl ?_
      refine lv_iadd hx hb d_Model_remove_53 ?_
      refine xtop (y := nI (64 * rr + j + 1)) (nI_add (64 * rr + j) 1) ?_
      refine xiald (k := (64 * rr + j + 1)) hx hb hK hP 1 0 rfl rfl rfl (by omega) (by decide) d_Model_remove_54 ?_
      refine xiast (k := (64 * rr + j)) hx hb hK hP hD hS 1 0 rfl rfl rfl (by omega) (by decide) d_Model_remove_55 (fun H locs hP hD hS => ?_)
      replace hP : va_P D vwCl [(h0, .inr (7, [.int tg, .ref a_st, .ref a_ck, .ref a_en, .ref a_au, .ref a_he, .ref a_qu, .ref a_lo, .ref a_ow, .ref a_fl, .ref a_ti, .ref a_gd, .ref a_ak, .ref a_sp, .ref a_se, .ref a_sd, .ref a_rw, .ref a_sz, .ref a_op, .ref a_th, .ref a_me, .ref a_pk, .int (nI kc), .int cm, .int su, .ref a_re, .int (nI kq), .ref a_dr])), (a_rw, .inl (cI, 256, .inl (upd rw1 (64 * rr + j) (rw1 (64 * rr + j + 1))))), (a_sz, .inl (cI, 4, .inl (szf Ls1)))] H := hP
      replace hD : va_D A [(h0, .inr (7, [.int tg, .ref a_st, .ref a_ck, .ref a_en, .ref a_au, .ref a_he, .ref a_qu, .ref a_lo, .ref a_ow, .ref a_fl, .ref a_ti, .ref a_gd, .ref a_ak, .ref a_sp, .ref a_se, .ref a_sd, .ref a_rw, .ref a_sz, .ref a_op, .ref a_th, .ref a_me, .ref a_pk, .int (nI kc), .int cm, .int su, .ref a_re, .int (nI kq), .ref a_dr])), (a_rw, .inl (cI, 256, .inl (upd rw1 (64 * rr + j) (rw1 (64 * rr + j + 1))))), (a_sz, .inl (cI, 4, .inl (szf Ls1)))] := hD
      refine lv_iinc (k := 3) (v := nI (j + 1)) hx hb d_Model_remove_56 hl rfl (nI_1 j) (by decide) rfl (fun ls hl => ?_)
      replace hl : lv_has ls 4 [(3, .int (nI (j + 1))), (0, .ref h0), (1, .int (nI rr)), (2, .int (rw (64 * rr)))] := hl
      refine lv_goto (tgt := 22) hx hb d_Model_remove_59 rfl ?_
      exact ihlp_remove (j + 1) (upd rw1 (64 * rr + j) (rw1 (64 * rr + j + 1))) _ _ _ (Nat.lt_of_not_le fun h9 => h2 (nI_le h9 (by omega))) (shift_step hsh) (by omega) (lv_sub hl [1, 2, 3, 0] rfl) hP hD hS 
  exact LPlp_remove ((Ls1 rr).length - 0) 0 rw _ _ _ (Nat.zero_le _) (fun k => by rw [if_neg (by omega)]) (Nat.le_refl _) (lv_sub hl [2, 3, 1, 0] rfl) hP hD hS 

def s_Model_append (th : Nat → Int32) (Ls : Nat → List Int32) (e_ : Nat) (c_ : Int32) : (Nat → Int32) × (Nat → List Int32) := if (th e_) = 0 then (bnd (s_Model_add Ls (2 * e_) c_) (fun Ls6 => bnd (α := Int32) (if (th e_) = 0 then (0) else (if 256 ≤ c_ then (0) else (1))) (fun y8 => (upd th e_ y8, Ls6)))) else (bnd (α := Int32) (if (th e_) = 0 then (0) else (if 256 ≤ c_ then (0) else (1))) (fun y3 => (upd th e_ y3, Ls)))
abbrev rm_Model_append : Room := { frames := 1, cells := 0, slots := 0, locals := 22 }
set_option maxHeartbeats 4000000 in
set_option maxRecDepth 100000 in
theorem c_Model_append {l : Launch} {D : va_G} {cI cZ : ClassId} (th : Nat → Int32) (Ls : Nat → List Int32) (e_ : Nat) (c_ : Int32) (h0 : Nat) (a_st : Nat) (a_ck : Nat) (a_en : Nat) (a_au : Nat) (a_he : Nat) (a_qu : Nat) (a_lo : Nat) (a_ow : Nat) (a_fl : Nat) (a_ti : Nat) (a_gd : Nat) (a_ak : Nat) (a_sp : Nat) (a_se : Nat) (a_sd : Nat) (a_rw : Nat) (a_sz : Nat) (a_op : Nat) (a_th : Nat) (a_me : Nat) (a_pk : Nat) (a_re : Nat) (a_dr : Nat) (tg : Int32) (kc : Nat) (cm : Int32) (su : Int32) (kq : Nat) (rw : Nat → Int32) (hM : RepM rw Ls) (he_ : e_ < 2) (hlen : th e_ = 0 → (Ls (2 * e_)).length < 64) (sz : Nat) : Met l y_Model_append (w_Model_append) rm_Model_append (va_Pc [.ref h0, .int (nI e_), .int c_] (xPre xNs D vwCl cI cZ [(h0, .inr (7, [.int tg, .ref a_st, .ref a_ck, .ref a_en, .ref a_au, .ref a_he, .ref a_qu, .ref a_lo, .ref a_ow, .ref a_fl, .ref a_ti, .ref a_gd, .ref a_ak, .ref a_sp, .ref a_se, .ref a_sd, .ref a_rw, .ref a_sz, .ref a_op, .ref a_th, .ref a_me, .ref a_pk, .int (nI kc), .int cm, .int su, .ref a_re, .int (nI kq), .ref a_dr])), (a_th, .inl (cZ, 2, .inl th)), (a_rw, .inl (cI, 256, .inl rw)), (a_sz, .inl (cI, 4, .inl (szf Ls)))] sz)) (va_Qv (fun (u : (Nat → Int32) × (Nat → List Int32) × (Nat → Int32)) => (u.1, u.2.1) = s_Model_append th Ls e_ c_ ∧ RepM u.2.2 u.2.1) (fun u t9 => xAt D vwCl (va_A [(h0, .inr (7, [.int tg, .ref a_st, .ref a_ck, .ref a_en, .ref a_au, .ref a_he, .ref a_qu, .ref a_lo, .ref a_ow, .ref a_fl, .ref a_ti, .ref a_gd, .ref a_ak, .ref a_sp, .ref a_se, .ref a_sd, .ref a_rw, .ref a_sz, .ref a_op, .ref a_th, .ref a_me, .ref a_pk, .int (nI kc), .int cm, .int su, .ref a_re, .int (nI kq), .ref a_dr])), (a_th, .inl (cZ, 2, .inl th)), (a_rw, .inl (cI, 256, .inl rw)), (a_sz, .inl (cI, 4, .inl (szf Ls)))] sz) [(h0, .inr (7, [.int tg, .ref a_st, .ref a_ck, .ref a_en, .ref a_au, .ref a_he, .ref a_qu, .ref a_lo, .ref a_ow, .ref a_fl, .ref a_ti, .ref a_gd, .ref a_ak, .ref a_sp, .ref a_se, .ref a_sd, .ref a_rw, .ref a_sz, .ref a_op, .ref a_th, .ref a_me, .ref a_pk, .int (nI kc), .int cm, .int su, .ref a_re, .int (nI kq), .ref a_dr])), (a_th, .inl (cZ, 2, .inl u.1)), (a_rw, .inl (cI, 256, .inl u.2.2)), (a_sz, .inl (cI, 4, .inl (szf u.2.1)))] t9) (va_A [(h0, .inr (7, [.int tg, .ref a_st, .ref a_ck, .ref a_en, .ref a_au, .ref a_he, .ref a_qu, .ref a_lo, .ref a_ow, .ref a_fl, .ref a_ti, .ref a_gd, .ref a_ak, .ref a_sp, .ref a_se, .ref a_sd, .ref a_rw, .ref a_sz, .ref a_op, .ref a_th, .ref a_me, .ref a_pk, .int (nI kc), .int cm, .int su, .ref a_re, .int (nI kq), .ref a_dr])), (a_th, .inl (cZ, 2, .inl th)), (a_rw, .inl (cI, 256, .inl rw)), (a_sz, .inl (cI, 4, .inl (szf Ls)))] sz)) 0 0 (va_A [(h0, .inr (7, [.int tg, .ref a_st, .ref a_ck, .ref a_en, .ref a_au, .ref a_he, .ref a_qu, .ref a_lo, .ref a_ow, .ref a_fl, .ref a_ti, .ref a_gd, .ref a_ak, .ref a_sp, .ref a_se, .ref a_sd, .ref a_rw, .ref a_sz, .ref a_op, .ref a_th, .ref a_me, .ref a_pk, .int (nI kc), .int cm, .int su, .ref a_re, .int (nI kq), .ref a_dr])), (a_th, .inl (cZ, 2, .inl th)), (a_rw, .inl (cI, 256, .inl rw)), (a_sz, .inl (cI, 4, .inl (szf Ls)))] sz) := by
  refine xBody_v (S := (Nat → Int32) × (Nat → List Int32) × (Nat → Int32)) (cc := b_Model_append) (maxL := 3) (by decide) rfl (Nat.le_of_ble_eq_true rfl) ?_
  intro p e s m args below meth c A H ls Q hx hb hml hin hts hown hP hD hK hN hS hA hl hret
  replace hl : lv_has ls 3 [(0, .ref h0), (1, .int (nI e_)), (2, .int c_)] := hl
  have hin_Model : ∀ w ∈ u_ws R_Model F_Model 28, w ∈ (w_Model_append) := (fun w h => xm (lay_Model w h))
  have hq : s_Model_append th Ls e_ c_ = (if (th e_) = 0 then (bnd (s_Model_add Ls (2 * e_) c_) (fun Ls6 => bnd (α := Int32) (if (th e_) = 0 then (0) else (if 256 ≤ c_ then (0) else (1))) (fun y8 => (upd th e_ y8, Ls6)))) else (bnd (α := Int32) (if (th e_) = 0 then (0) else (if 256 ≤ c_ then (0) else (1))) (fun y3 => (upd th e_ y3, Ls)))) := rfl
  refine lv_aload_n hx hb d_Model_append_0 rfl (lv_at hl 0 rfl) ?_
  refine va_get (D := D) (ci := 7) (v := .ref a_th) (C := R_Model) (T := F_Model) (N := 28) hx hb hts hin_Model hown hK hP 0 rfl rfl 19 (by decide) (hts _ (xm ww_552)) (fun _ h9 => h9) rfl d_Model_append_1 ?_
  refine lv_iload_n hx hb d_Model_append_4 rfl (lv_at hl 1 rfl) ?_
  refine xzald (k := e_) hx hb hK hP 1 1 rfl rfl rfl he_ (by decide) d_Model_append_5 ?_
  refine lv_if_ne (tgt := 17) hx hb d_Model_append_6 rfl (fun h1 => ?_) (fun h1 => ?_)
  · replace hq := hq.trans (if_neg h1)
    refine lv_aload_n hx hb d_Model_append_17 rfl (lv_at hl 0 rfl) ?_
    refine va_get (D := D) (ci := 7) (v := .ref a_th) (C := R_Model) (T := F_Model) (N := 28) hx hb hts hin_Model hown hK hP 0 rfl rfl 19 (by decide) (hts _ (xm ww_552)) (fun _ h9 => h9) rfl d_Model_append_18 ?_
    refine lv_iload_n hx hb d_Model_append_21 rfl (lv_at hl 1 rfl) ?_
    refine lv_aload_n hx hb d_Model_append_22 rfl (lv_at hl 0 rfl) ?_
    refine va_get (D := D) (ci := 7) (v := .ref a_th) (C := R_Model) (T := F_Model) (N := 28) hx hb hts hin_Model hown hK hP 0 rfl rfl 19 (by decide) (hts _ (xm ww_552)) (fun _ h9 => h9) rfl d_Model_append_23 ?_
    refine lv_iload_n hx hb d_Model_append_26 rfl (lv_at hl 1 rfl) ?_
    refine xzald (k := e_) hx hb hK hP 1 1 rfl rfl rfl he_ (by decide) d_Model_append_27 ?_
    have J2 : ∀ (y3 : Int32) (H : Heap) (locs : List Loc), y3 = (if (th e_) = 0 then (0) else (if 256 ≤ c_ then (0) else (1))) → xB y3 → va_P D vwCl [(h0, .inr (7, [.int tg, .ref a_st, .ref a_ck, .ref a_en, .ref a_au, .ref a_he, .ref a_qu, .ref a_lo, .ref a_ow, .ref a_fl, .ref a_ti, .ref a_gd, .ref a_ak, .ref a_sp, .ref a_se, .ref a_sd, .ref a_rw, .ref a_sz, .ref a_op, .ref a_th, .ref a_me, .ref a_pk, .int (nI kc), .int cm, .int su, .ref a_re, .int (nI kq), .ref a_dr])), (a_th, .inl (cZ, 2, .inl th)), (a_rw, .inl (cI, 256, .inl rw)), (a_sz, .inl (cI, 4, .inl (szf Ls)))] H → va_D A [(h0, .inr (7, [.int tg, .ref a_st, .ref a_ck, .ref a_en, .ref a_au, .ref a_he, .ref a_qu, .ref a_lo, .ref a_ow, .ref a_fl, .ref a_ti, .ref a_gd, .ref a_ak, .ref a_sp, .ref a_se, .ref a_sd, .ref a_rw, .ref a_sz, .ref a_op, .ref a_th, .ref a_me, .ref a_pk, .int (nI kc), .int cm, .int su, .ref a_re, .int (nI kq), .ref a_dr])), (a_th, .inl (cZ, 2, .inl th)), (a_rw, .inl (cI, 256, .inl rw)), (a_sz, .inl (cI, 4, .inl (szf Ls)))] → va_S A s.heap H locs → W p l e rm_Model_append s m args below meth c H locs 0 0 Q (F0 m 43 ls [.int y3, .int (nI e_), .ref a_th]) := by
      intro y3 H locs hy3 hby3 hP hD hS
      replace hq := hq.trans (bnd_eq hy3)
      try dsimp only at hq
      refine xzast (k := e_) hx hb hK hP hD hS 1 1 rfl rfl rfl he_ (by decide) hby3 d_Model_append_43 (fun H locs hP hD hS => ?_)
      replace hP : va_P D vwCl [(h0, .inr (7, [.int tg, .ref a_st, .ref a_ck, .ref a_en, .ref a_au, .ref a_he, .ref a_qu, .ref a_lo, .ref a_ow, .ref a_fl, .ref a_ti, .ref a_gd, .ref a_ak, .ref a_sp, .ref a_se, .ref a_sd, .ref a_rw, .ref a_sz, .ref a_op, .ref a_th, .ref a_me, .ref a_pk, .int (nI kc), .int cm, .int su, .ref a_re, .int (nI kq), .ref a_dr])), (a_th, .inl (cZ, 2, .inl (upd th e_ y3))), (a_rw, .inl (cI, 256, .inl rw)), (a_sz, .inl (cI, 4, .inl (szf Ls)))] H := hP
      replace hD : va_D A [(h0, .inr (7, [.int tg, .ref a_st, .ref a_ck, .ref a_en, .ref a_au, .ref a_he, .ref a_qu, .ref a_lo, .ref a_ow, .ref a_fl, .ref a_ti, .ref a_gd, .ref a_ak, .ref a_sp, .ref a_se, .ref a_sd, .ref a_rw, .ref a_sz, .ref a_op, .ref a_th, .ref a_me, .ref a_pk, .int (nI kc), .int cm, .int su, .ref a_re, .int (nI kq), .ref a_dr])), (a_th, .inl (cZ, 2, .inl (upd th e_ y3))), (a_rw, .inl (cI, 256, .inl rw)), (a_sz, .inl (cI, 4, .inl (szf Ls)))] := hD
      exact hret (upd th e_ y3, Ls, rw) ⟨hq.symm, hM⟩ _ _ _ _ hP hD hS d_Model_append_44
    have hv : ((if (th e_) = 0 then (0) else (if 256 ≤ c_ then (0) else (1))) : Int32) = (if (th e_) = 0 then (0) else (if 256 ≤ c_ then (0) else (1))) := rfl
    refine lv_if_eq (tgt := 42) hx hb d_Model_append_28 rfl (fun h4 => ?_) (fun h4 => ?_)
    · replace hv := hv.trans (if_pos h4)
      refine lv_iconst (v := 0) hx hb d_Model_append_42 rfl ?_
      exact J2 _ _ _ hv.symm (Or.inl rfl) hP hD hS
    replace hv := hv.trans (if_neg h4)
    refine lv_iload_n hx hb d_Model_append_31 rfl (lv_at hl 2 rfl) ?_
    refine lv_sipush (v := 256) hx hb d_Model_append_32 rfl ?_
    refine lv_icmp_ge (tgt := 42) hx hb d_Model_append_35 rfl (fun h5 => ?_) (fun h5 => ?_)
    · replace hv := hv.trans (if_pos h5)
      refine lv_iconst (v := 0) hx hb d_Model_append_42 rfl ?_
      exact J2 _ _ _ hv.symm (Or.inl rfl) hP hD hS
    replace hv := hv.trans (if_neg h5)
    refine lv_iconst (v := 1) hx hb d_Model_append_38 rfl ?_
    refine lv_goto (tgt := 43) hx hb d_Model_append_39 rfl ?_
    exact J2 _ _ _ hv.symm (Or.inr rfl) hP hD hS
  replace hq := hq.trans (if_pos h1)
  refine lv_aload_n hx hb d_Model_append_9 rfl (lv_at hl 0 rfl) ?_
  refine lv_iconst (v := 2) hx hb d_Model_append_10 rfl ?_
  refine lv_iload_n hx hb d_Model_append_11 rfl (lv_at hl 1 rfl) ?_
  refine lv_imul hx hb d_Model_append_12 ?_
  refine xtop (y := nI (2 * e_)) (pk_mul 2 e_) ?_
  refine lv_iload_n hx hb d_Model_append_13 rfl (lv_at hl 2 rfl) ?_
  refine xcall_v (wc := [(h0, .inr (7, [.int tg, .ref a_st, .ref a_ck, .ref a_en, .ref a_au, .ref a_he, .ref a_qu, .ref a_lo, .ref a_ow, .ref a_fl, .ref a_ti, .ref a_gd, .ref a_ak, .ref a_sp, .ref a_se, .ref a_sd, .ref a_rw, .ref a_sz, .ref a_op, .ref a_th, .ref a_me, .ref a_pk, .int (nI kc), .int cm, .int su, .ref a_re, .int (nI kq), .ref a_dr])), (a_rw, .inl (cI, 256, .inl rw)), (a_sz, .inl (cI, 4, .inl (szf Ls)))]) (wr := [(a_th, .inl (cZ, 2, .inl th))]) (ws1 := fun (u : (Nat → List Int32) × (Nat → Int32)) => [(h0, .inr (7, [.int tg, .ref a_st, .ref a_ck, .ref a_en, .ref a_au, .ref a_he, .ref a_qu, .ref a_lo, .ref a_ow, .ref a_fl, .ref a_ti, .ref a_gd, .ref a_ak, .ref a_sp, .ref a_se, .ref a_sd, .ref a_rw, .ref a_sz, .ref a_op, .ref a_th, .ref a_me, .ref a_pk, .int (nI kc), .int cm, .int su, .ref a_re, .int (nI kq), .ref a_dr])), (a_th, .inl (cZ, 2, .inl th)), (a_rw, .inl (cI, 256, .inl u.2)), (a_sz, .inl (cI, 4, .inl (szf u.1)))]) (va_runV (As := [.int (nI (2 * e_)), .int c_]) (rest := []) ⟨hx, hb, hml, hown, hts⟩ (c_Model_add Ls (2 * e_) c_ h0 a_st a_ck a_en a_au a_he a_qu a_lo a_ow a_fl a_ti a_gd a_ak a_sp a_se a_sd a_rw a_sz a_op a_th a_me a_pk a_re a_dr tg kc cm su kq rw hM (by omega) (hlen h1) H.size) (xcwV 2 hts ww_634 ww_631 ww_633 ws_Model_add ww_8 (by decide +kernel) rfl rfl ⟨Nat.le_of_ble_eq_true rfl, Nat.le_of_ble_eq_true rfl⟩) (xPreV (ci := 7) (q0 := 0) (q := (R_Model, F_Model, 28)) (hP.sub [0, 2, 3] rfl) (hD.sub [0, 2, 3] (by decide) rfl) hK hN rfl rfl rfl) rfl rfl hl.1 rfl (lv_room (Nat.le_of_ble_eq_true rfl)) d_Model_append_14 ⟨Nat.le_of_ble_eq_true rfl, Nat.le_of_ble_eq_true rfl⟩) hP hD hS hA [0, 2, 3] [1] [1, 0, 2, 3] rfl rfl (by decide) (by decide) (by decide) (fun _ => rfl) (fun u6 H locs hw hP hD hS => ?_)
  obtain ⟨Ls6, rw6⟩ := u6
  obtain ⟨hw, hM_6⟩ := hw
  replace hP : va_P D vwCl [(h0, .inr (7, [.int tg, .ref a_st, .ref a_ck, .ref a_en, .ref a_au, .ref a_he, .ref a_qu, .ref a_lo, .ref a_ow, .ref a_fl, .ref a_ti, .ref a_gd, .ref a_ak, .ref a_sp, .ref a_se, .ref a_sd, .ref a_rw, .ref a_sz, .ref a_op, .ref a_th, .ref a_me, .ref a_pk, .int (nI kc), .int cm, .int su, .ref a_re, .int (nI kq), .ref a_dr])), (a_th, .inl (cZ, 2, .inl th)), (a_rw, .inl (cI, 256, .inl rw6)), (a_sz, .inl (cI, 4, .inl (szf Ls6)))] H := hP
  replace hD : va_D A [(h0, .inr (7, [.int tg, .ref a_st, .ref a_ck, .ref a_en, .ref a_au, .ref a_he, .ref a_qu, .ref a_lo, .ref a_ow, .ref a_fl, .ref a_ti, .ref a_gd, .ref a_ak, .ref a_sp, .ref a_se, .ref a_sd, .ref a_rw, .ref a_sz, .ref a_op, .ref a_th, .ref a_me, .ref a_pk, .int (nI kc), .int cm, .int su, .ref a_re, .int (nI kq), .ref a_dr])), (a_th, .inl (cZ, 2, .inl th)), (a_rw, .inl (cI, 256, .inl rw6)), (a_sz, .inl (cI, 4, .inl (szf Ls6)))] := hD
  have hw_6 := hw
  replace hq := hq.trans (bnd_eq hw)
  try dsimp only at hq
  refine lv_aload_n hx hb d_Model_append_17 rfl (lv_at hl 0 rfl) ?_
  refine va_get (D := D) (ci := 7) (v := .ref a_th) (C := R_Model) (T := F_Model) (N := 28) hx hb hts hin_Model hown hK hP 0 rfl rfl 19 (by decide) (hts _ (xm ww_552)) (fun _ h9 => h9) rfl d_Model_append_18 ?_
  refine lv_iload_n hx hb d_Model_append_21 rfl (lv_at hl 1 rfl) ?_
  refine lv_aload_n hx hb d_Model_append_22 rfl (lv_at hl 0 rfl) ?_
  refine va_get (D := D) (ci := 7) (v := .ref a_th) (C := R_Model) (T := F_Model) (N := 28) hx hb hts hin_Model hown hK hP 0 rfl rfl 19 (by decide) (hts _ (xm ww_552)) (fun _ h9 => h9) rfl d_Model_append_23 ?_
  refine lv_iload_n hx hb d_Model_append_26 rfl (lv_at hl 1 rfl) ?_
  refine xzald (k := e_) hx hb hK hP 1 1 rfl rfl rfl he_ (by decide) d_Model_append_27 ?_
  have J7 : ∀ (y8 : Int32) (H : Heap) (locs : List Loc), y8 = (if (th e_) = 0 then (0) else (if 256 ≤ c_ then (0) else (1))) → xB y8 → va_P D vwCl [(h0, .inr (7, [.int tg, .ref a_st, .ref a_ck, .ref a_en, .ref a_au, .ref a_he, .ref a_qu, .ref a_lo, .ref a_ow, .ref a_fl, .ref a_ti, .ref a_gd, .ref a_ak, .ref a_sp, .ref a_se, .ref a_sd, .ref a_rw, .ref a_sz, .ref a_op, .ref a_th, .ref a_me, .ref a_pk, .int (nI kc), .int cm, .int su, .ref a_re, .int (nI kq), .ref a_dr])), (a_th, .inl (cZ, 2, .inl th)), (a_rw, .inl (cI, 256, .inl rw6)), (a_sz, .inl (cI, 4, .inl (szf Ls6)))] H → va_D A [(h0, .inr (7, [.int tg, .ref a_st, .ref a_ck, .ref a_en, .ref a_au, .ref a_he, .ref a_qu, .ref a_lo, .ref a_ow, .ref a_fl, .ref a_ti, .ref a_gd, .ref a_ak, .ref a_sp, .ref a_se, .ref a_sd, .ref a_rw, .ref a_sz, .ref a_op, .ref a_th, .ref a_me, .ref a_pk, .int (nI kc), .int cm, .int su, .ref a_re, .int (nI kq), .ref a_dr])), (a_th, .inl (cZ, 2, .inl th)), (a_rw, .inl (cI, 256, .inl rw6)), (a_sz, .inl (cI, 4, .inl (szf Ls6)))] → va_S A s.heap H locs → W p l e rm_Model_append s m args below meth c H locs 0 0 Q (F0 m 43 ls [.int y8, .int (nI e_), .ref a_th]) := by
    intro y8 H locs hy8 hby8 hP hD hS
    replace hq := hq.trans (bnd_eq hy8)
    try dsimp only at hq
    refine xzast (k := e_) hx hb hK hP hD hS 1 1 rfl rfl rfl he_ (by decide) hby8 d_Model_append_43 (fun H locs hP hD hS => ?_)
    replace hP : va_P D vwCl [(h0, .inr (7, [.int tg, .ref a_st, .ref a_ck, .ref a_en, .ref a_au, .ref a_he, .ref a_qu, .ref a_lo, .ref a_ow, .ref a_fl, .ref a_ti, .ref a_gd, .ref a_ak, .ref a_sp, .ref a_se, .ref a_sd, .ref a_rw, .ref a_sz, .ref a_op, .ref a_th, .ref a_me, .ref a_pk, .int (nI kc), .int cm, .int su, .ref a_re, .int (nI kq), .ref a_dr])), (a_th, .inl (cZ, 2, .inl (upd th e_ y8))), (a_rw, .inl (cI, 256, .inl rw6)), (a_sz, .inl (cI, 4, .inl (szf Ls6)))] H := hP
    replace hD : va_D A [(h0, .inr (7, [.int tg, .ref a_st, .ref a_ck, .ref a_en, .ref a_au, .ref a_he, .ref a_qu, .ref a_lo, .ref a_ow, .ref a_fl, .ref a_ti, .ref a_gd, .ref a_ak, .ref a_sp, .ref a_se, .ref a_sd, .ref a_rw, .ref a_sz, .ref a_op, .ref a_th, .ref a_me, .ref a_pk, .int (nI kc), .int cm, .int su, .ref a_re, .int (nI kq), .ref a_dr])), (a_th, .inl (cZ, 2, .inl (upd th e_ y8))), (a_rw, .inl (cI, 256, .inl rw6)), (a_sz, .inl (cI, 4, .inl (szf Ls6)))] := hD
    exact hret (upd th e_ y8, Ls6, rw6) ⟨hq.symm, hM_6⟩ _ _ _ _ hP hD hS d_Model_append_44
  have hv : ((if (th e_) = 0 then (0) else (if 256 ≤ c_ then (0) else (1))) : Int32) = (if (th e_) = 0 then (0) else (if 256 ≤ c_ then (0) else (1))) := rfl
  refine lv_if_eq (tgt := 42) hx hb d_Model_append_28 rfl (fun h9 => ?_) (fun h9 => ?_)
  · replace hv := hv.trans (if_pos h9)
    refine lv_iconst (v := 0) hx hb d_Model_append_42 rfl ?_
    exact J7 _ _ _ hv.symm (Or.inl rfl) hP hD hS
  replace hv := hv.trans (if_neg h9)
  refine lv_iload_n hx hb d_Model_append_31 rfl (lv_at hl 2 rfl) ?_
  refine lv_sipush (v := 256) hx hb d_Model_append_32 rfl ?_
  refine lv_icmp_ge (tgt := 42) hx hb d_Model_append_35 rfl (fun h10 => ?_) (fun h10 => ?_)
  · replace hv := hv.trans (if_pos h10)
    refine lv_iconst (v := 0) hx hb d_Model_append_42 rfl ?_
    exact J7 _ _ _ hv.symm (Or.inl rfl) hP hD hS
  replace hv := hv.trans (if_neg h10)
  refine lv_iconst (v := 1) hx hb d_Model_append_38 rfl ?_
  refine lv_goto (tgt := 43) hx hb d_Model_append_39 rfl ?_
  exact J7 _ _ _ hv.symm (Or.inr rfl) hP hD hS

def s_Model_arrival_123 (st : Nat → Int32) (ck : Nat → Int32) (he : Nat → Int32) (qu : Nat → Int32) (lo : Nat → Int32) (ow : Nat → Int32) (ti : Nat → Int32) (gd : Nat → Int32) (op : Nat → Int32) (Ls : Nat → List Int32) (e_ : Nat) (x : Int32) (y3 : Int32) (y8 : Int32) : Int32 × (Nat → Int32) × (Nat → Int32) × (Nat → Int32) × (Nat → Int32) × (Nat → Int32) × (Nat → Int32) × (Nat → Int32) × (Nat → Int32) × (Nat → Int32) × (Nat → List Int32) := if x = 259 then (0, st, ck, upd he e_ 1, upd qu e_ y3, lo, ow, ti, gd, op, Ls) else (if x = 258 then (if y8 = 0 then (0, upd st e_ 5, upd ck e_ (-1), he, upd qu e_ y3, upd lo e_ ((lo e_) + 8), ow, ti, gd, upd (upd op (2 * e_) 0) (2 * e_ + 1) 0, Ls) else (0, st, ck, he, upd qu e_ y3, upd lo e_ ((lo e_) + 8), ow, ti, gd, op, Ls)) else (if x ≤ 259 then (bnd (s_Model_add Ls (2 * e_ + 1) x) (fun Ls12 => bnd (α := Int32) (if 256 ≤ x then (0) else (1)) (fun y14 => (0, st, ck, he, upd qu e_ y3, lo, upd ow e_ ((ow e_) - 1), ti, gd, upd op (2 * e_ + 1) y14, Ls12)))) else (bnd (α := Int32) (if (((ti e_) + 1) - ((ti e_) + 1) / 64 * 64) = (x - 260) then ((gd e_) + 1) else (gd e_)) (fun y17 => (0, st, ck, he, upd qu e_ y3, lo, ow, upd ti e_ (x - 260), upd gd e_ y17, op, Ls)))))
def s_Model_arrival (st : Nat → Int32) (ck : Nat → Int32) (he : Nat → Int32) (qu : Nat → Int32) (lo : Nat → Int32) (ow : Nat → Int32) (ti : Nat → Int32) (gd : Nat → Int32) (op : Nat → Int32) (Ls : Nat → List Int32) (e_ : Nat) (x : Int32) (y : Int32) : Int32 × (Nat → Int32) × (Nat → Int32) × (Nat → Int32) × (Nat → Int32) × (Nat → Int32) × (Nat → Int32) × (Nat → Int32) × (Nat → Int32) × (Nat → Int32) × (Nat → List Int32) := if (st e_) = 0 then (0, st, ck, he, qu, lo, ow, ti, gd, op, Ls) else (bnd (α := Int32) (if x = (-3) then (if (he e_) = 0 then (0) else (1)) else (0)) (fun y3 => bnd (α := Int32) (if y3 = 0 then (0) else (if (qu e_) = 0 then (0) else (1))) (fun y5 => if x = (-3) then (y5, st, ck, he, upd qu e_ y3, lo, ow, ti, gd, op, Ls) else (bnd (α := Int32) (if (st e_) = 5 then (1) else (0)) (fun y8 => if y = 0 then (if x = 259 then (s_Model_arrival_123 st ck he qu lo ow ti gd op Ls e_ x y3 y8) else (if y8 = 0 then (if x = 258 then (if (st e_) = 4 then (s_Model_arrival_123 st ck he qu lo ow ti gd op Ls e_ x y3 y8) else (1, st, ck, he, upd qu e_ y3, lo, ow, ti, gd, op, Ls)) else (1, st, ck, he, upd qu e_ y3, lo, ow, ti, gd, op, Ls)) else (s_Model_arrival_123 st ck he qu lo ow ti gd op Ls e_ x y3 y8))) else (1, st, ck, he, upd qu e_ y3, lo, ow, ti, gd, op, Ls))))))
abbrev rm_Model_arrival : Room := { frames := 1, cells := 0, slots := 0, locals := 22 }
set_option maxHeartbeats 4000000 in
set_option maxRecDepth 100000 in
theorem c_Model_arrival {l : Launch} {D : va_G} {cI cZ : ClassId} (st : Nat → Int32) (ck : Nat → Int32) (he : Nat → Int32) (qu : Nat → Int32) (lo : Nat → Int32) (ow : Nat → Int32) (ti : Nat → Int32) (gd : Nat → Int32) (op : Nat → Int32) (Ls : Nat → List Int32) (e_ : Nat) (x : Int32) (y : Int32) (h0 : Nat) (a_st : Nat) (a_ck : Nat) (a_en : Nat) (a_au : Nat) (a_he : Nat) (a_qu : Nat) (a_lo : Nat) (a_ow : Nat) (a_fl : Nat) (a_ti : Nat) (a_gd : Nat) (a_ak : Nat) (a_sp : Nat) (a_se : Nat) (a_sd : Nat) (a_rw : Nat) (a_sz : Nat) (a_op : Nat) (a_th : Nat) (a_me : Nat) (a_pk : Nat) (a_re : Nat) (a_dr : Nat) (tg : Int32) (kc : Nat) (cm : Int32) (su : Int32) (kq : Nat) (rw : Nat → Int32) (hM : RepM rw Ls) (he_ : e_ < 2) (hlen : (Ls (2 * e_ + 1)).length < 64) (sz : Nat) : Met l y_Model_arrival (w_Model_arrival) rm_Model_arrival (va_Pc [.ref h0, .int (nI e_), .int x, .int y] (xPre xNs D vwCl cI cZ [(h0, .inr (7, [.int tg, .ref a_st, .ref a_ck, .ref a_en, .ref a_au, .ref a_he, .ref a_qu, .ref a_lo, .ref a_ow, .ref a_fl, .ref a_ti, .ref a_gd, .ref a_ak, .ref a_sp, .ref a_se, .ref a_sd, .ref a_rw, .ref a_sz, .ref a_op, .ref a_th, .ref a_me, .ref a_pk, .int (nI kc), .int cm, .int su, .ref a_re, .int (nI kq), .ref a_dr])), (a_st, .inl (cI, 2, .inl st)), (a_ck, .inl (cI, 2, .inl ck)), (a_he, .inl (cZ, 2, .inl he)), (a_qu, .inl (cZ, 2, .inl qu)), (a_lo, .inl (cI, 2, .inl lo)), (a_ow, .inl (cI, 2, .inl ow)), (a_ti, .inl (cI, 2, .inl ti)), (a_gd, .inl (cI, 2, .inl gd)), (a_op, .inl (cZ, 4, .inl op)), (a_rw, .inl (cI, 256, .inl rw)), (a_sz, .inl (cI, 4, .inl (szf Ls)))] sz)) (va_Qi (fun (r : Int32) (u : (Nat → Int32) × (Nat → Int32) × (Nat → Int32) × (Nat → Int32) × (Nat → Int32) × (Nat → Int32) × (Nat → Int32) × (Nat → Int32) × (Nat → Int32) × (Nat → List Int32) × (Nat → Int32)) => (r, u.1, u.2.1, u.2.2.1, u.2.2.2.1, u.2.2.2.2.1, u.2.2.2.2.2.1, u.2.2.2.2.2.2.1, u.2.2.2.2.2.2.2.1, u.2.2.2.2.2.2.2.2.1, u.2.2.2.2.2.2.2.2.2.1) = s_Model_arrival st ck he qu lo ow ti gd op Ls e_ x y ∧ RepM u.2.2.2.2.2.2.2.2.2.2 u.2.2.2.2.2.2.2.2.2.1 ∧ xB r) (fun u t9 => xAt D vwCl (va_A [(h0, .inr (7, [.int tg, .ref a_st, .ref a_ck, .ref a_en, .ref a_au, .ref a_he, .ref a_qu, .ref a_lo, .ref a_ow, .ref a_fl, .ref a_ti, .ref a_gd, .ref a_ak, .ref a_sp, .ref a_se, .ref a_sd, .ref a_rw, .ref a_sz, .ref a_op, .ref a_th, .ref a_me, .ref a_pk, .int (nI kc), .int cm, .int su, .ref a_re, .int (nI kq), .ref a_dr])), (a_st, .inl (cI, 2, .inl st)), (a_ck, .inl (cI, 2, .inl ck)), (a_he, .inl (cZ, 2, .inl he)), (a_qu, .inl (cZ, 2, .inl qu)), (a_lo, .inl (cI, 2, .inl lo)), (a_ow, .inl (cI, 2, .inl ow)), (a_ti, .inl (cI, 2, .inl ti)), (a_gd, .inl (cI, 2, .inl gd)), (a_op, .inl (cZ, 4, .inl op)), (a_rw, .inl (cI, 256, .inl rw)), (a_sz, .inl (cI, 4, .inl (szf Ls)))] sz) [(h0, .inr (7, [.int tg, .ref a_st, .ref a_ck, .ref a_en, .ref a_au, .ref a_he, .ref a_qu, .ref a_lo, .ref a_ow, .ref a_fl, .ref a_ti, .ref a_gd, .ref a_ak, .ref a_sp, .ref a_se, .ref a_sd, .ref a_rw, .ref a_sz, .ref a_op, .ref a_th, .ref a_me, .ref a_pk, .int (nI kc), .int cm, .int su, .ref a_re, .int (nI kq), .ref a_dr])), (a_st, .inl (cI, 2, .inl u.1)), (a_ck, .inl (cI, 2, .inl u.2.1)), (a_he, .inl (cZ, 2, .inl u.2.2.1)), (a_qu, .inl (cZ, 2, .inl u.2.2.2.1)), (a_lo, .inl (cI, 2, .inl u.2.2.2.2.1)), (a_ow, .inl (cI, 2, .inl u.2.2.2.2.2.1)), (a_ti, .inl (cI, 2, .inl u.2.2.2.2.2.2.1)), (a_gd, .inl (cI, 2, .inl u.2.2.2.2.2.2.2.1)), (a_op, .inl (cZ, 4, .inl u.2.2.2.2.2.2.2.2.1)), (a_rw, .inl (cI, 256, .inl u.2.2.2.2.2.2.2.2.2.2)), (a_sz, .inl (cI, 4, .inl (szf u.2.2.2.2.2.2.2.2.2.1)))] t9) (va_A [(h0, .inr (7, [.int tg, .ref a_st, .ref a_ck, .ref a_en, .ref a_au, .ref a_he, .ref a_qu, .ref a_lo, .ref a_ow, .ref a_fl, .ref a_ti, .ref a_gd, .ref a_ak, .ref a_sp, .ref a_se, .ref a_sd, .ref a_rw, .ref a_sz, .ref a_op, .ref a_th, .ref a_me, .ref a_pk, .int (nI kc), .int cm, .int su, .ref a_re, .int (nI kq), .ref a_dr])), (a_st, .inl (cI, 2, .inl st)), (a_ck, .inl (cI, 2, .inl ck)), (a_he, .inl (cZ, 2, .inl he)), (a_qu, .inl (cZ, 2, .inl qu)), (a_lo, .inl (cI, 2, .inl lo)), (a_ow, .inl (cI, 2, .inl ow)), (a_ti, .inl (cI, 2, .inl ti)), (a_gd, .inl (cI, 2, .inl gd)), (a_op, .inl (cZ, 4, .inl op)), (a_rw, .inl (cI, 256, .inl rw)), (a_sz, .inl (cI, 4, .inl (szf Ls)))] sz)) 0 0 (va_A [(h0, .inr (7, [.int tg, .ref a_st, .ref a_ck, .ref a_en, .ref a_au, .ref a_he, .ref a_qu, .ref a_lo, .ref a_ow, .ref a_fl, .ref a_ti, .ref a_gd, .ref a_ak, .ref a_sp, .ref a_se, .ref a_sd, .ref a_rw, .ref a_sz, .ref a_op, .ref a_th, .ref a_me, .ref a_pk, .int (nI kc), .int cm, .int su, .ref a_re, .int (nI kq), .ref a_dr])), (a_st, .inl (cI, 2, .inl st)), (a_ck, .inl (cI, 2, .inl ck)), (a_he, .inl (cZ, 2, .inl he)), (a_qu, .inl (cZ, 2, .inl qu)), (a_lo, .inl (cI, 2, .inl lo)), (a_ow, .inl (cI, 2, .inl ow)), (a_ti, .inl (cI, 2, .inl ti)), (a_gd, .inl (cI, 2, .inl gd)), (a_op, .inl (cZ, 4, .inl op)), (a_rw, .inl (cI, 256, .inl rw)), (a_sz, .inl (cI, 4, .inl (szf Ls)))] sz) := by
  refine xBody_z (S := (Nat → Int32) × (Nat → Int32) × (Nat → Int32) × (Nat → Int32) × (Nat → Int32) × (Nat → Int32) × (Nat → Int32) × (Nat → Int32) × (Nat → Int32) × (Nat → List Int32) × (Nat → Int32)) (cc := b_Model_arrival) (maxL := 8) (by decide) rfl (Nat.le_of_ble_eq_true rfl) ?_
  intro p e s m args below meth c A H ls Q hx hb hml hin hts hown hP hD hK hN hS hA hl hret
  replace hl : lv_has ls 8 [(0, .ref h0), (1, .int (nI e_)), (2, .int x), (3, .int y)] := hl
  have hin_Model : ∀ w ∈ u_ws R_Model F_Model 28, w ∈ (w_Model_arrival) := (fun w h => xm (lay_Model w h))
  have hq : s_Model_arrival st ck he qu lo ow ti gd op Ls e_ x y = (if (st e_) = 0 then (0, st, ck, he, qu, lo, ow, ti, gd, op, Ls) else (bnd (α := Int32) (if x = (-3) then (if (he e_) = 0 then (0) else (1)) else (0)) (fun y3 => bnd (α := Int32) (if y3 = 0 then (0) else (if (qu e_) = 0 then (0) else (1))) (fun y5 => if x = (-3) then (y5, st, ck, he, upd qu e_ y3, lo, ow, ti, gd, op, Ls) else (bnd (α := Int32) (if (st e_) = 5 then (1) else (0)) (fun y8 => if y = 0 then (if x = 259 then (s_Model_arrival_123 st ck he qu lo ow ti gd op Ls e_ x y3 y8) else (if y8 = 0 then (if x = 258 then (if (st e_) = 4 then (s_Model_arrival_123 st ck he qu lo ow ti gd op Ls e_ x y3 y8) else (1, st, ck, he, upd qu e_ y3, lo, ow, ti, gd, op, Ls)) else (1, st, ck, he, upd qu e_ y3, lo, ow, ti, gd, op, Ls)) else (s_Model_arrival_123 st ck he qu lo ow ti gd op Ls e_ x y3 y8))) else (1, st, ck, he, upd qu e_ y3, lo, ow, ti, gd, op, Ls))))))) := rfl
  refine lv_aload_n hx hb d_Model_arrival_0 rfl (lv_at hl 0 rfl) ?_
  refine va_get (D := D) (ci := 7) (v := .ref a_st) (C := R_Model) (T := F_Model) (N := 28) hx hb hts hin_Model hown hK hP 0 rfl rfl 1 (by decide) (hts _ (xm ww_534)) (fun _ h9 => h9) rfl d_Model_arrival_1 ?_
  refine lv_iload_n hx hb d_Model_arrival_4 rfl (lv_at hl 1 rfl) ?_
  refine xiald (k := e_) hx hb hK hP 1 0 rfl rfl rfl he_ (by decide) d_Model_arrival_5 ?_
  refine lv_if_ne (tgt := 11) hx hb d_Model_arrival_6 rfl (fun h1 => ?_) (fun h1 => ?_)
  · replace hq := hq.trans (if_neg h1)
    refine lv_iload_n hx hb d_Model_arrival_11 rfl (lv_at hl 2 rfl) ?_
    refine lv_bipush (v := (-3)) hx hb d_Model_arrival_12 rfl ?_
    have J2 : ∀ (y3 : Int32) (H : Heap) (locs : List Loc), y3 = (if x = (-3) then (if (he e_) = 0 then (0) else (1)) else (0)) → xB y3 → va_P D vwCl [(h0, .inr (7, [.int tg, .ref a_st, .ref a_ck, .ref a_en, .ref a_au, .ref a_he, .ref a_qu, .ref a_lo, .ref a_ow, .ref a_fl, .ref a_ti, .ref a_gd, .ref a_ak, .ref a_sp, .ref a_se, .ref a_sd, .ref a_rw, .ref a_sz, .ref a_op, .ref a_th, .ref a_me, .ref a_pk, .int (nI kc), .int cm, .int su, .ref a_re, .int (nI kq), .ref a_dr])), (a_st, .inl (cI, 2, .inl st)), (a_ck, .inl (cI, 2, .inl ck)), (a_he, .inl (cZ, 2, .inl he)), (a_qu, .inl (cZ, 2, .inl qu)), (a_lo, .inl (cI, 2, .inl lo)), (a_ow, .inl (cI, 2, .inl ow)), (a_ti, .inl (cI, 2, .inl ti)), (a_gd, .inl (cI, 2, .inl gd)), (a_op, .inl (cZ, 4, .inl op)), (a_rw, .inl (cI, 256, .inl rw)), (a_sz, .inl (cI, 4, .inl (szf Ls)))] H → va_D A [(h0, .inr (7, [.int tg, .ref a_st, .ref a_ck, .ref a_en, .ref a_au, .ref a_he, .ref a_qu, .ref a_lo, .ref a_ow, .ref a_fl, .ref a_ti, .ref a_gd, .ref a_ak, .ref a_sp, .ref a_se, .ref a_sd, .ref a_rw, .ref a_sz, .ref a_op, .ref a_th, .ref a_me, .ref a_pk, .int (nI kc), .int cm, .int su, .ref a_re, .int (nI kq), .ref a_dr])), (a_st, .inl (cI, 2, .inl st)), (a_ck, .inl (cI, 2, .inl ck)), (a_he, .inl (cZ, 2, .inl he)), (a_qu, .inl (cZ, 2, .inl qu)), (a_lo, .inl (cI, 2, .inl lo)), (a_ow, .inl (cI, 2, .inl ow)), (a_ti, .inl (cI, 2, .inl ti)), (a_gd, .inl (cI, 2, .inl gd)), (a_op, .inl (cZ, 4, .inl op)), (a_rw, .inl (cI, 256, .inl rw)), (a_sz, .inl (cI, 4, .inl (szf Ls)))] → va_S A s.heap H locs → W p l e rm_Model_arrival s m args below meth c H locs 0 0 Q (F0 m 31 ls [.int y3]) := by
      intro y3 H locs hy3 hby3 hP hD hS
      replace hq := hq.trans (bnd_eq hy3)
      try dsimp only at hq
      refine lv_istore hx hb d_Model_arrival_31 hl (by decide) rfl (fun ls hl => ?_)
      replace hl : lv_has ls 8 [(4, .int y3), (0, .ref h0), (1, .int (nI e_)), (2, .int x), (3, .int y)] := hl
      refine lv_iload hx hb d_Model_arrival_33 (lv_at hl 0 rfl) ?_
      have J4 : ∀ (y5 : Int32) (H : Heap) (locs : List Loc), y5 = (if y3 = 0 then (0) else (if (qu e_) = 0 then (0) else (1))) → xB y5 → va_P D vwCl [(h0, .inr (7, [.int tg, .ref a_st, .ref a_ck, .ref a_en, .ref a_au, .ref a_he, .ref a_qu, .ref a_lo, .ref a_ow, .ref a_fl, .ref a_ti, .ref a_gd, .ref a_ak, .ref a_sp, .ref a_se, .ref a_sd, .ref a_rw, .ref a_sz, .ref a_op, .ref a_th, .ref a_me, .ref a_pk, .int (nI kc), .int cm, .int su, .ref a_re, .int (nI kq), .ref a_dr])), (a_st, .inl (cI, 2, .inl st)), (a_ck, .inl (cI, 2, .inl ck)), (a_he, .inl (cZ, 2, .inl he)), (a_qu, .inl (cZ, 2, .inl qu)), (a_lo, .inl (cI, 2, .inl lo)), (a_ow, .inl (cI, 2, .inl ow)), (a_ti, .inl (cI, 2, .inl ti)), (a_gd, .inl (cI, 2, .inl gd)), (a_op, .inl (cZ, 4, .inl op)), (a_rw, .inl (cI, 256, .inl rw)), (a_sz, .inl (cI, 4, .inl (szf Ls)))] H → va_D A [(h0, .inr (7, [.int tg, .ref a_st, .ref a_ck, .ref a_en, .ref a_au, .ref a_he, .ref a_qu, .ref a_lo, .ref a_ow, .ref a_fl, .ref a_ti, .ref a_gd, .ref a_ak, .ref a_sp, .ref a_se, .ref a_sd, .ref a_rw, .ref a_sz, .ref a_op, .ref a_th, .ref a_me, .ref a_pk, .int (nI kc), .int cm, .int su, .ref a_re, .int (nI kq), .ref a_dr])), (a_st, .inl (cI, 2, .inl st)), (a_ck, .inl (cI, 2, .inl ck)), (a_he, .inl (cZ, 2, .inl he)), (a_qu, .inl (cZ, 2, .inl qu)), (a_lo, .inl (cI, 2, .inl lo)), (a_ow, .inl (cI, 2, .inl ow)), (a_ti, .inl (cI, 2, .inl ti)), (a_gd, .inl (cI, 2, .inl gd)), (a_op, .inl (cZ, 4, .inl op)), (a_rw, .inl (cI, 256, .inl rw)), (a_sz, .inl (cI, 4, .inl (szf Ls)))] → va_S A s.heap H locs → W p l e rm_Model_arrival s m args below meth c H locs 0 0 Q (F0 m 52 ls [.int y5]) := by
        intro y5 H locs hy5 hby5 hP hD hS
        replace hq := hq.trans (bnd_eq hy5)
        try dsimp only at hq
        refine lv_istore hx hb d_Model_arrival_52 hl (by decide) rfl (fun ls hl => ?_)
        replace hl : lv_has ls 8 [(5, .int y5), (4, .int y3), (0, .ref h0), (1, .int (nI e_)), (2, .int x), (3, .int y)] := hl
        refine lv_aload_n hx hb d_Model_arrival_54 rfl (lv_at hl 2 rfl) ?_
        refine va_get (D := D) (ci := 7) (v := .ref a_qu) (C := R_Model) (T := F_Model) (N := 28) hx hb hts hin_Model hown hK hP 0 rfl rfl 6 (by decide) (hts _ (xm ww_539)) (fun _ h9 => h9) rfl d_Model_arrival_55 ?_
        refine lv_iload_n hx hb d_Model_arrival_58 rfl (lv_at hl 3 rfl) ?_
        refine lv_iload hx hb d_Model_arrival_59 (lv_at hl 1 rfl) ?_
        refine xzast (k := e_) hx hb hK hP hD hS 4 1 rfl rfl rfl he_ (by decide) hby3 d_Model_arrival_61 (fun H locs hP hD hS => ?_)
        replace hP : va_P D vwCl [(h0, .inr (7, [.int tg, .ref a_st, .ref a_ck, .ref a_en, .ref a_au, .ref a_he, .ref a_qu, .ref a_lo, .ref a_ow, .ref a_fl, .ref a_ti, .ref a_gd, .ref a_ak, .ref a_sp, .ref a_se, .ref a_sd, .ref a_rw, .ref a_sz, .ref a_op, .ref a_th, .ref a_me, .ref a_pk, .int (nI kc), .int cm, .int su, .ref a_re, .int (nI kq), .ref a_dr])), (a_st, .inl (cI, 2, .inl st)), (a_ck, .inl (cI, 2, .inl ck)), (a_he, .inl (cZ, 2, .inl he)), (a_qu, .inl (cZ, 2, .inl (upd qu e_ y3))), (a_lo, .inl (cI, 2, .inl lo)), (a_ow, .inl (cI, 2, .inl ow)), (a_ti, .inl (cI, 2, .inl ti)), (a_gd, .inl (cI, 2, .inl gd)), (a_op, .inl (cZ, 4, .inl op)), (a_rw, .inl (cI, 256, .inl rw)), (a_sz, .inl (cI, 4, .inl (szf Ls)))] H := hP
        replace hD : va_D A [(h0, .inr (7, [.int tg, .ref a_st, .ref a_ck, .ref a_en, .ref a_au, .ref a_he, .ref a_qu, .ref a_lo, .ref a_ow, .ref a_fl, .ref a_ti, .ref a_gd, .ref a_ak, .ref a_sp, .ref a_se, .ref a_sd, .ref a_rw, .ref a_sz, .ref a_op, .ref a_th, .ref a_me, .ref a_pk, .int (nI kc), .int cm, .int su, .ref a_re, .int (nI kq), .ref a_dr])), (a_st, .inl (cI, 2, .inl st)), (a_ck, .inl (cI, 2, .inl ck)), (a_he, .inl (cZ, 2, .inl he)), (a_qu, .inl (cZ, 2, .inl (upd qu e_ y3))), (a_lo, .inl (cI, 2, .inl lo)), (a_ow, .inl (cI, 2, .inl ow)), (a_ti, .inl (cI, 2, .inl ti)), (a_gd, .inl (cI, 2, .inl gd)), (a_op, .inl (cZ, 4, .inl op)), (a_rw, .inl (cI, 256, .inl rw)), (a_sz, .inl (cI, 4, .inl (szf Ls)))] := hD
        refine lv_iload_n hx hb d_Model_arrival_62 rfl (lv_at hl 4 rfl) ?_
        refine lv_bipush (v := (-3)) hx hb d_Model_arrival_63 rfl ?_
        refine lv_icmp_ne (tgt := 71) hx hb d_Model_arrival_65 rfl (fun h6 => ?_) (fun h6 => ?_)
        · replace hq := hq.trans (if_neg h6)
          refine lv_aload_n hx hb d_Model_arrival_71 rfl (lv_at hl 2 rfl) ?_
          refine va_get (D := D) (ci := 7) (v := .ref a_st) (C := R_Model) (T := F_Model) (N := 28) hx hb hts hin_Model hown hK hP 0 rfl rfl 1 (by decide) (hts _ (xm ww_534)) (fun _ h9 => h9) rfl d_Model_arrival_72 ?_
          refine lv_iload_n hx hb d_Model_arrival_75 rfl (lv_at hl 3 rfl) ?_
          refine xiald (k := e_) hx hb hK hP 1 0 rfl rfl rfl he_ (by decide) d_Model_arrival_76 ?_
          refine lv_iconst (v := 5) hx hb d_Model_arrival_77 rfl ?_
          have J7 : ∀ (y8 : Int32) (H : Heap) (locs : List Loc), y8 = (if (st e_) = 5 then (1) else (0)) → xB y8 → va_P D vwCl [(h0, .inr (7, [.int tg, .ref a_st, .ref a_ck, .ref a_en, .ref a_au, .ref a_he, .ref a_qu, .ref a_lo, .ref a_ow, .ref a_fl, .ref a_ti, .ref a_gd, .ref a_ak, .ref a_sp, .ref a_se, .ref a_sd, .ref a_rw, .ref a_sz, .ref a_op, .ref a_th, .ref a_me, .ref a_pk, .int (nI kc), .int cm, .int su, .ref a_re, .int (nI kq), .ref a_dr])), (a_st, .inl (cI, 2, .inl st)), (a_ck, .inl (cI, 2, .inl ck)), (a_he, .inl (cZ, 2, .inl he)), (a_qu, .inl (cZ, 2, .inl (upd qu e_ y3))), (a_lo, .inl (cI, 2, .inl lo)), (a_ow, .inl (cI, 2, .inl ow)), (a_ti, .inl (cI, 2, .inl ti)), (a_gd, .inl (cI, 2, .inl gd)), (a_op, .inl (cZ, 4, .inl op)), (a_rw, .inl (cI, 256, .inl rw)), (a_sz, .inl (cI, 4, .inl (szf Ls)))] H → va_D A [(h0, .inr (7, [.int tg, .ref a_st, .ref a_ck, .ref a_en, .ref a_au, .ref a_he, .ref a_qu, .ref a_lo, .ref a_ow, .ref a_fl, .ref a_ti, .ref a_gd, .ref a_ak, .ref a_sp, .ref a_se, .ref a_sd, .ref a_rw, .ref a_sz, .ref a_op, .ref a_th, .ref a_me, .ref a_pk, .int (nI kc), .int cm, .int su, .ref a_re, .int (nI kq), .ref a_dr])), (a_st, .inl (cI, 2, .inl st)), (a_ck, .inl (cI, 2, .inl ck)), (a_he, .inl (cZ, 2, .inl he)), (a_qu, .inl (cZ, 2, .inl (upd qu e_ y3))), (a_lo, .inl (cI, 2, .inl lo)), (a_ow, .inl (cI, 2, .inl ow)), (a_ti, .inl (cI, 2, .inl ti)), (a_gd, .inl (cI, 2, .inl gd)), (a_op, .inl (cZ, 4, .inl op)), (a_rw, .inl (cI, 256, .inl rw)), (a_sz, .inl (cI, 4, .inl (szf Ls)))] → va_S A s.heap H locs → W p l e rm_Model_arrival s m args below meth c H locs 0 0 Q (F0 m 86 ls [.int y8]) := by
            intro y8 H locs hy8 hby8 hP hD hS
            replace hq := hq.trans (bnd_eq hy8)
            try dsimp only at hq
            refine lv_istore hx hb d_Model_arrival_86 hl (by decide) rfl (fun ls hl => ?_)
            replace hl : lv_has ls 8 [(6, .int y8), (5, .int y5), (4, .int y3), (0, .ref h0), (1, .int (nI e_)), (2, .int x), (3, .int y)] := hl
            have Cs_Model_arrival_123 : ∀  (ls : Array Slot) (H : Heap) (locs : List Loc), lv_has ls 8 [(6, .int y8), (5, .int y5), (4, .int y3), (0, .ref h0), (1, .int (nI e_)), (2, .int x), (3, .int y)] → va_P D vwCl [(h0, .inr (7, [.int tg, .ref a_st, .ref a_ck, .ref a_en, .ref a_au, .ref a_he, .ref a_qu, .ref a_lo, .ref a_ow, .ref a_fl, .ref a_ti, .ref a_gd, .ref a_ak, .ref a_sp, .ref a_se, .ref a_sd, .ref a_rw, .ref a_sz, .ref a_op, .ref a_th, .ref a_me, .ref a_pk, .int (nI kc), .int cm, .int su, .ref a_re, .int (nI kq), .ref a_dr])), (a_st, .inl (cI, 2, .inl st)), (a_ck, .inl (cI, 2, .inl ck)), (a_he, .inl (cZ, 2, .inl he)), (a_qu, .inl (cZ, 2, .inl (upd qu e_ y3))), (a_lo, .inl (cI, 2, .inl lo)), (a_ow, .inl (cI, 2, .inl ow)), (a_ti, .inl (cI, 2, .inl ti)), (a_gd, .inl (cI, 2, .inl gd)), (a_op, .inl (cZ, 4, .inl op)), (a_rw, .inl (cI, 256, .inl rw)), (a_sz, .inl (cI, 4, .inl (szf Ls)))] H → va_D A [(h0, .inr (7, [.int tg, .ref a_st, .ref a_ck, .ref a_en, .ref a_au, .ref a_he, .ref a_qu, .ref a_lo, .ref a_ow, .ref a_fl, .ref a_ti, .ref a_gd, .ref a_ak, .ref a_sp, .ref a_se, .ref a_sd, .ref a_rw, .ref a_sz, .ref a_op, .ref a_th, .ref a_me, .ref a_pk, .int (nI kc), .int cm, .int su, .ref a_re, .int (nI kq), .ref a_dr])), (a_st, .inl (cI, 2, .inl st)), (a_ck, .inl (cI, 2, .inl ck)), (a_he, .inl (cZ, 2, .inl he)), (a_qu, .inl (cZ, 2, .inl (upd qu e_ y3))), (a_lo, .inl (cI, 2, .inl lo)), (a_ow, .inl (cI, 2, .inl ow)), (a_ti, .inl (cI, 2, .inl ti)), (a_gd, .inl (cI, 2, .inl gd)), (a_op, .inl (cZ, 4, .inl op)), (a_rw, .inl (cI, 256, .inl rw)), (a_sz, .inl (cI, 4, .inl (szf Ls)))] → va_S A s.heap H locs → s_Model_arrival st ck he qu lo ow ti gd op Ls e_ x y = s_Model_arrival_123 st ck he qu lo ow ti gd op Ls e_ x y3 y8 → W p l e rm_Model_arrival s m args below meth c H locs 0 0 Q (F0 m 123 ls []) := by
              intro ls H locs hl hP hD hS hq
              replace hq : s_Model_arrival st ck he qu lo ow ti gd op Ls e_ x y = (if x = 259 then (0, st, ck, upd he e_ 1, upd qu e_ y3, lo, ow, ti, gd, op, Ls) else (if x = 258 then (if y8 = 0 then (0, upd st e_ 5, upd ck e_ (-1), he, upd qu e_ y3, upd lo e_ ((lo e_) + 8), ow, ti, gd, upd (upd op (2 * e_) 0) (2 * e_ + 1) 0, Ls) else (0, st, ck, he, upd qu e_ y3, upd lo e_ ((lo e_) + 8), ow, ti, gd, op, Ls)) else (if x ≤ 259 then (bnd (s_Model_add Ls (2 * e_ + 1) x) (fun Ls12 => bnd (α := Int32) (if 256 ≤ x then (0) else (1)) (fun y14 => (0, st, ck, he, upd qu e_ y3, lo, upd ow e_ ((ow e_) - 1), ti, gd, upd op (2 * e_ + 1) y14, Ls12)))) else (bnd (α := Int32) (if (((ti e_) + 1) - ((ti e_) + 1) / 64 * 64) = (x - 260) then ((gd e_) + 1) else (gd e_)) (fun y17 => (0, st, ck, he, upd qu e_ y3, lo, ow, upd ti e_ (x - 260), upd gd e_ y17, op, Ls)))))) := hq
              refine lv_iload_n hx hb d_Model_arrival_123 rfl (lv_at hl 5 rfl) ?_
              refine lv_sipush (v := 259) hx hb d_Model_arrival_124 rfl ?_
              refine lv_icmp_ne (tgt := 140) hx hb d_Model_arrival_127 rfl (fun h9 => ?_) (fun h9 => ?_)
              · replace hq := hq.trans (if_neg h9)
                refine lv_iload_n hx hb d_Model_arrival_140 rfl (lv_at hl 5 rfl) ?_
                refine lv_sipush (v := 258) hx hb d_Model_arrival_141 rfl ?_
                refine lv_icmp_ne (tgt := 204) hx hb d_Model_arrival_144 rfl (fun h10 => ?_) (fun h10 => ?_)
                · replace hq := hq.trans (if_neg h10)
                  refine lv_iload_n hx hb d_Model_arrival_204 rfl (lv_at hl 5 rfl) ?_
                  refine lv_sipush (v := 259) hx hb d_Model_arrival_205 rfl ?_
                  refine lv_icmp_le (tgt := 268) hx hb d_Model_arrival_208 rfl (fun h11 => ?_) (fun h11 => ?_)
                  · replace hq := hq.trans (if_pos h11)
                    refine lv_aload_n hx hb d_Model_arrival_268 rfl (lv_at hl 3 rfl) ?_
                    refine va_get (D := D) (ci := 7) (v := .ref a_ow) (C := R_Model) (T := F_Model) (N := 28) hx hb hts hin_Model hown hK hP 0 rfl rfl 8 (by decide) (hts _ (xm ww_541)) (fun _ h9 => h9) rfl d_Model_arrival_269 ?_
                    refine lv_iload_n hx hb d_Model_arrival_272 rfl (lv_at hl 4 rfl) ?_
                    refine lv_dup2_11 hx hb d_Model_arrival_273 rfl rfl ?_
                    refine xiald (k := e_) hx hb hK hP 6 0 rfl rfl rfl he_ (by decide) d_Model_arrival_274 ?_
                    refine lv_iconst (v := 1) hx hb d_Model_arrival_275 rfl ?_
                    refine lv_isub hx hb d_Model_arrival_276 ?_
                    refine xiast (k := e_) hx hb hK hP hD hS 6 0 rfl rfl rfl he_ (by decide) d_Model_arrival_277 (fun H locs hP hD hS => ?_)
                    replace hP : va_P D vwCl [(h0, .inr (7, [.int tg, .ref a_st, .ref a_ck, .ref a_en, .ref a_au, .ref a_he, .ref a_qu, .ref a_lo, .ref a_ow, .ref a_fl, .ref a_ti, .ref a_gd, .ref a_ak, .ref a_sp, .ref a_se, .ref a_sd, .ref a_rw, .ref a_sz, .ref a_op, .ref a_th, .ref a_me, .ref a_pk, .int (nI kc), .int cm, .int su, .ref a_re, .int (nI kq), .ref a_dr])), (a_st, .inl (cI, 2, .inl st)), (a_ck, .inl (cI, 2, .inl ck)), (a_he, .inl (cZ, 2, .inl he)), (a_qu, .inl (cZ, 2, .inl (upd qu e_ y3))), (a_lo, .inl (cI, 2, .inl lo)), (a_ow, .inl (cI, 2, .inl (upd ow e_ ((ow e_) - 1)))), (a_ti, .inl (cI, 2, .inl ti)), (a_gd, .inl (cI, 2, .inl gd)), (a_op, .inl (cZ, 4, .inl op)), (a_rw, .inl (cI, 256, .inl rw)), (a_sz, .inl (cI, 4, .inl (szf Ls)))] H := hP
                    replace hD : va_D A [(h0, .inr (7, [.int tg, .ref a_st, .ref a_ck, .ref a_en, .ref a_au, .ref a_he, .ref a_qu, .ref a_lo, .ref a_ow, .ref a_fl, .ref a_ti, .ref a_gd, .ref a_ak, .ref a_sp, .ref a_se, .ref a_sd, .ref a_rw, .ref a_sz, .ref a_op, .ref a_th, .ref a_me, .ref a_pk, .int (nI kc), .int cm, .int su, .ref a_re, .int (nI kq), .ref a_dr])), (a_st, .inl (cI, 2, .inl st)), (a_ck, .inl (cI, 2, .inl ck)), (a_he, .inl (cZ, 2, .inl he)), (a_qu, .inl (cZ, 2, .inl (upd qu e_ y3))), (a_lo, .inl (cI, 2, .inl lo)), (a_ow, .inl (cI, 2, .inl (upd ow e_ ((ow e_) - 1)))), (a_ti, .inl (cI, 2, .inl ti)), (a_gd, .inl (cI, 2, .inl gd)), (a_op, .inl (cZ, 4, .inl op)), (a_rw, .inl (cI, 256, .inl rw)), (a_sz, .inl (cI, 4, .inl (szf Ls)))] := hD
                    refine lv_aload_n hx hb d_Model_arrival_278 rfl (lv_at hl 3 rfl) ?_
                    refine lv_iconst (v := 2) hx hb d_Model_arrival_279 rfl ?_
                    refine lv_iload_n hx hb d_Model_arrival_280 rfl (lv_at hl 4 rfl) ?_
                    refine lv_imul hx hb d_Model_arrival_281 ?_
                    refine xtop (y := nI (2 * e_)) (pk_mul 2 e_) ?_
                    refine lv_iconst (v := 1) hx hb d_Model_arrival_282 rfl ?_
                    refine lv_iadd hx hb d_Model_arrival_283 ?_
                    refine xtop (y := nI (2 * e_ + 1)) (nI_add (2 * e_) 1) ?_
                    refine lv_iload_n hx hb d_Model_arrival_284 rfl (lv_at hl 5 rfl) ?_
                    refine xcall_v (wc := [(h0, .inr (7, [.int tg, .ref a_st, .ref a_ck, .ref a_en, .ref a_au, .ref a_he, .ref a_qu, .ref a_lo, .ref a_ow, .ref a_fl, .ref a_ti, .ref a_gd, .ref a_ak, .ref a_sp, .ref a_se, .ref a_sd, .ref a_rw, .ref a_sz, .ref a_op, .ref a_th, .ref a_me, .ref a_pk, .int (nI kc), .int cm, .int su, .ref a_re, .int (nI kq), .ref a_dr])), (a_rw, .inl (cI, 256, .inl rw)), (a_sz, .inl (cI, 4, .inl (szf Ls)))]) (wr := [(a_st, .inl (cI, 2, .inl st)), (a_ck, .inl (cI, 2, .inl ck)), (a_he, .inl (cZ, 2, .inl he)), (a_qu, .inl (cZ, 2, .inl (upd qu e_ y3))), (a_lo, .inl (cI, 2, .inl lo)), (a_ow, .inl (cI, 2, .inl (upd ow e_ ((ow e_) - 1)))), (a_ti, .inl (cI, 2, .inl ti)), (a_gd, .inl (cI, 2, .inl gd)), (a_op, .inl (cZ, 4, .inl op))]) (ws1 := fun (u : (Nat → List Int32) × (Nat → Int32)) => [(h0, .inr (7, [.int tg, .ref a_st, .ref a_ck, .ref a_en, .ref a_au, .ref a_he, .ref a_qu, .ref a_lo, .ref a_ow, .ref a_fl, .ref a_ti, .ref a_gd, .ref a_ak, .ref a_sp, .ref a_se, .ref a_sd, .ref a_rw, .ref a_sz, .ref a_op, .ref a_th, .ref a_me, .ref a_pk, .int (nI kc), .int cm, .int su, .ref a_re, .int (nI kq), .ref a_dr])), (a_st, .inl (cI, 2, .inl st)), (a_ck, .inl (cI, 2, .inl ck)), (a_he, .inl (cZ, 2, .inl he)), (a_qu, .inl (cZ, 2, .inl (upd qu e_ y3))), (a_lo, .inl (cI, 2, .inl lo)), (a_ow, .inl (cI, 2, .inl (upd ow e_ ((ow e_) - 1)))), (a_ti, .inl (cI, 2, .inl ti)), (a_gd, .inl (cI, 2, .inl gd)), (a_op, .inl (cZ, 4, .inl op)), (a_rw, .inl (cI, 256, .inl u.2)), (a_sz, .inl (cI, 4, .inl (szf u.1)))]) (va_runV (As := [.int (nI (2 * e_ + 1)), .int x]) (rest := []) ⟨hx, hb, hml, hown, hts⟩ (c_Model_add Ls (2 * e_ + 1) x h0 a_st a_ck a_en a_au a_he a_qu a_lo a_ow a_fl a_ti a_gd a_ak a_sp a_se a_sd a_rw a_sz a_op a_th a_me a_pk a_re a_dr tg kc cm su kq rw hM (by omega) hlen H.size) (xcwV 2 hts ww_634 ww_631 ww_633 ws_Model_add ww_8 (by decide +kernel) rfl rfl ⟨Nat.le_of_ble_eq_true rfl, Nat.le_of_ble_eq_true rfl⟩) (xPreV (ci := 7) (q0 := 0) (q := (R_Model, F_Model, 28)) (hP.sub [0, 10, 11] rfl) (hD.sub [0, 10, 11] (by decide) rfl) hK hN rfl rfl rfl) rfl rfl hl.1 rfl (lv_room (Nat.le_of_ble_eq_true rfl)) d_Model_arrival_285 ⟨Nat.le_of_ble_eq_true rfl, Nat.le_of_ble_eq_true rfl⟩) hP hD hS hA [0, 10, 11] [1, 2, 3, 4, 5, 6, 7, 8, 9] [9, 0, 1, 2, 3, 4, 5, 6, 7, 8, 10, 11] rfl rfl (by decide) (by decide) (by decide) (fun _ => rfl) (fun u12 H locs hw hP hD hS => ?_)
                    obtain ⟨Ls12, rw12⟩ := u12
                    obtain ⟨hw, hM_12⟩ := hw
                    replace hP : va_P D vwCl [(h0, .inr (7, [.int tg, .ref a_st, .ref a_ck, .ref a_en, .ref a_au, .ref a_he, .ref a_qu, .ref a_lo, .ref a_ow, .ref a_fl, .ref a_ti, .ref a_gd, .ref a_ak, .ref a_sp, .ref a_se, .ref a_sd, .ref a_rw, .ref a_sz, .ref a_op, .ref a_th, .ref a_me, .ref a_pk, .int (nI kc), .int cm, .int su, .ref a_re, .int (nI kq), .ref a_dr])), (a_st, .inl (cI, 2, .inl st)), (a_ck, .inl (cI, 2, .inl ck)), (a_he, .inl (cZ, 2, .inl he)), (a_qu, .inl (cZ, 2, .inl (upd qu e_ y3))), (a_lo, .inl (cI, 2, .inl lo)), (a_ow, .inl (cI, 2, .inl (upd ow e_ ((ow e_) - 1)))), (a_ti, .inl (cI, 2, .inl ti)), (a_gd, .inl (cI, 2, .inl gd)), (a_op, .inl (cZ, 4, .inl op)), (a_rw, .inl (cI, 256, .inl rw12)), (a_sz, .inl (cI, 4, .inl (szf Ls12)))] H := hP
                    replace hD : va_D A [(h0, .inr (7, [.int tg, .ref a_st, .ref a_ck, .ref a_en, .ref a_au, .ref a_he, .ref a_qu, .ref a_lo, .ref a_ow, .ref a_fl, .ref a_ti, .ref a_gd, .ref a_ak, .ref a_sp, .ref a_se, .ref a_sd, .ref a_rw, .ref a_sz, .ref a_op, .ref a_th, .ref a_me, .ref a_pk, .int (nI kc), .int cm, .int su, .ref a_re, .int (nI kq), .ref a_dr])), (a_st, .inl (cI, 2, .inl st)), (a_ck, .inl (cI, 2, .inl ck)), (a_he, .inl (cZ, 2, .inl he)), (a_qu, .inl (cZ, 2, .inl (upd qu e_ y3))), (a_lo, .inl (cI, 2, .inl lo)), (a_ow, .inl (cI, 2, .inl (upd ow e_ ((ow e_) - 1)))), (a_ti, .inl (cI, 2, .inl ti)), (a_gd, .inl (cI, 2, .inl gd)), (a_op, .inl (cZ, 4, .inl op)), (a_rw, .inl (cI, 256, .inl rw12)), (a_sz, .inl (cI, 4, .inl (szf Ls12)))] := hD
                    have hw_12 := hw
                    replace hq := hq.trans (bnd_eq hw)
                    try dsimp only at hq
                    refine lv_aload_n hx hb d_Model_arrival_288 rfl (lv_at hl 3 rfl) ?_
                    refine va_get (D := D) (ci := 7) (v := .ref a_op) (C := R_Model) (T := F_Model) (N := 28) hx hb hts hin_Model hown hK hP 0 rfl rfl 18 (by decide) (hts _ (xm ww_551)) (fun _ h9 => h9) rfl d_Model_arrival_289 ?_
                    refine lv_iconst (v := 2) hx hb d_Model_arrival_292 rfl ?_
                    refine lv_iload_n hx hb d_Model_arrival_293 rfl (lv_at hl 4 rfl) ?_
                    refine lv_imul hx hb d_Model_arrival_294 ?_
                    refine xtop (y := nI (2 * e_)) (pk_mul 2 e_) ?_
                    refine lv_iconst (v := 1) hx hb d_Model_arrival_295 rfl ?_
                    refine lv_iadd hx hb d_Model_arrival_296 ?_
                    refine xtop (y := nI (2 * e_ + 1)) (nI_add (2 * e_) 1) ?_
                    refine lv_iload_n hx hb d_Model_arrival_297 rfl (lv_at hl 5 rfl) ?_
                    refine lv_sipush (v := 256) hx hb d_Model_arrival_298 rfl ?_
                    have J13 : ∀ (y14 : Int32) (H : Heap) (locs : List Loc), y14 = (if 256 ≤ x then (0) else (1)) → xB y14 → va_P D vwCl [(h0, .inr (7, [.int tg, .ref a_st, .ref a_ck, .ref a_en, .ref a_au, .ref a_he, .ref a_qu, .ref a_lo, .ref a_ow, .ref a_fl, .ref a_ti, .ref a_gd, .ref a_ak, .ref a_sp, .ref a_se, .ref a_sd, .ref a_rw, .ref a_sz, .ref a_op, .ref a_th, .ref a_me, .ref a_pk, .int (nI kc), .int cm, .int su, .ref a_re, .int (nI kq), .ref a_dr])), (a_st, .inl (cI, 2, .inl st)), (a_ck, .inl (cI, 2, .inl ck)), (a_he, .inl (cZ, 2, .inl he)), (a_qu, .inl (cZ, 2, .inl (upd qu e_ y3))), (a_lo, .inl (cI, 2, .inl lo)), (a_ow, .inl (cI, 2, .inl (upd ow e_ ((ow e_) - 1)))), (a_ti, .inl (cI, 2, .inl ti)), (a_gd, .inl (cI, 2, .inl gd)), (a_op, .inl (cZ, 4, .inl op)), (a_rw, .inl (cI, 256, .inl rw12)), (a_sz, .inl (cI, 4, .inl (szf Ls12)))] H → va_D A [(h0, .inr (7, [.int tg, .ref a_st, .ref a_ck, .ref a_en, .ref a_au, .ref a_he, .ref a_qu, .ref a_lo, .ref a_ow, .ref a_fl, .ref a_ti, .ref a_gd, .ref a_ak, .ref a_sp, .ref a_se, .ref a_sd, .ref a_rw, .ref a_sz, .ref a_op, .ref a_th, .ref a_me, .ref a_pk, .int (nI kc), .int cm, .int su, .ref a_re, .int (nI kq), .ref a_dr])), (a_st, .inl (cI, 2, .inl st)), (a_ck, .inl (cI, 2, .inl ck)), (a_he, .inl (cZ, 2, .inl he)), (a_qu, .inl (cZ, 2, .inl (upd qu e_ y3))), (a_lo, .inl (cI, 2, .inl lo)), (a_ow, .inl (cI, 2, .inl (upd ow e_ ((ow e_) - 1)))), (a_ti, .inl (cI, 2, .inl ti)), (a_gd, .inl (cI, 2, .inl gd)), (a_op, .inl (cZ, 4, .inl op)), (a_rw, .inl (cI, 256, .inl rw12)), (a_sz, .inl (cI, 4, .inl (szf Ls12)))] → va_S A s.heap H locs → W p l e rm_Model_arrival s m args below meth c H locs 0 0 Q (F0 m 309 ls [.int y14, .int (nI (2 * e_ + 1)), .ref a_op]) := by
                      intro y14 H locs hy14 hby14 hP hD hS
                      replace hq := hq.trans (bnd_eq hy14)
                      try dsimp only at hq
                      refine xzast (k := (2 * e_ + 1)) hx hb hK hP hD hS 9 1 rfl rfl rfl (by omega) (by decide) hby14 d_Model_arrival_309 (fun H locs hP hD hS => ?_)
                      replace hP : va_P D vwCl [(h0, .inr (7, [.int tg, .ref a_st, .ref a_ck, .ref a_en, .ref a_au, .ref a_he, .ref a_qu, .ref a_lo, .ref a_ow, .ref a_fl, .ref a_ti, .ref a_gd, .ref a_ak, .ref a_sp, .ref a_se, .ref a_sd, .ref a_rw, .ref a_sz, .ref a_op, .ref a_th, .ref a_me, .ref a_pk, .int (nI kc), .int cm, .int su, .ref a_re, .int (nI kq), .ref a_dr])), (a_st, .inl (cI, 2, .inl st)), (a_ck, .inl (cI, 2, .inl ck)), (a_he, .inl (cZ, 2, .inl he)), (a_qu, .inl (cZ, 2, .inl (upd qu e_ y3))), (a_lo, .inl (cI, 2, .inl lo)), (a_ow, .inl (cI, 2, .inl (upd ow e_ ((ow e_) - 1)))), (a_ti, .inl (cI, 2, .inl ti)), (a_gd, .inl (cI, 2, .inl gd)), (a_op, .inl (cZ, 4, .inl (upd op (2 * e_ + 1) y14))), (a_rw, .inl (cI, 256, .inl rw12)), (a_sz, .inl (cI, 4, .inl (szf Ls12)))] H := hP
                      replace hD : va_D A [(h0, .inr (7, [.int tg, .ref a_st, .ref a_ck, .ref a_en, .ref a_au, .ref a_he, .ref a_qu, .ref a_lo, .ref a_ow, .ref a_fl, .ref a_ti, .ref a_gd, .ref a_ak, .ref a_sp, .ref a_se, .ref a_sd, .ref a_rw, .ref a_sz, .ref a_op, .ref a_th, .ref a_me, .ref a_pk, .int (nI kc), .int cm, .int su, .ref a_re, .int (nI kq), .ref a_dr])), (a_st, .inl (cI, 2, .inl st)), (a_ck, .inl (cI, 2, .inl ck)), (a_he, .inl (cZ, 2, .inl he)), (a_qu, .inl (cZ, 2, .inl (upd qu e_ y3))), (a_lo, .inl (cI, 2, .inl lo)), (a_ow, .inl (cI, 2, .inl (upd ow e_ ((ow e_) - 1)))), (a_ti, .inl (cI, 2, .inl ti)), (a_gd, .inl (cI, 2, .inl gd)), (a_op, .inl (cZ, 4, .inl (upd op (2 * e_ + 1) y14))), (a_rw, .inl (cI, 256, .inl rw12)), (a_sz, .inl (cI, 4, .inl (szf Ls12)))] := hD
                      refine lv_iconst (v := 0) hx hb d_Model_arrival_310 rfl ?_
                      exact hret 0 (st, ck, he, upd qu e_ y3, lo, upd ow e_ ((ow e_) - 1), ti, gd, upd op (2 * e_ + 1) y14, Ls12, rw12) ⟨hq.symm, hM_12, (Or.inl rfl)⟩ _ _ _ _ (Or.inl rfl) hP hD hS d_Model_arrival_311
                    have hv : ((if 256 ≤ x then (0) else (1)) : Int32) = (if 256 ≤ x then (0) else (1)) := rfl
                    refine lv_icmp_ge (tgt := 308) hx hb d_Model_arrival_301 rfl (fun h15 => ?_) (fun h15 => ?_)
                    · replace hv := hv.trans (if_pos h15)
                      refine lv_iconst (v := 0) hx hb d_Model_arrival_308 rfl ?_
                      exact J13 _ _ _ hv.symm (Or.inl rfl) hP hD hS
                    replace hv := hv.trans (if_neg h15)
                    refine lv_iconst (v := 1) hx hb d_Model_arrival_304 rfl ?_
                    refine lv_goto (tgt := 309) hx hb d_Model_arrival_305 rfl ?_
                    exact J13 _ _ _ hv.symm (Or.inr rfl) hP hD hS
                  replace hq := hq.trans (if_neg h11)
                  refine lv_iload_n hx hb d_Model_arrival_211 rfl (lv_at hl 5 rfl) ?_
                  refine lv_sipush (v := 260) hx hb d_Model_arrival_212 rfl ?_
                  refine lv_isub hx hb d_Model_arrival_215 ?_
                  refine lv_istore hx hb d_Model_arrival_216 hl (by decide) rfl (fun ls hl => ?_)
                  replace hl : lv_has ls 8 [(7, .int (x - 260)), (6, .int y8), (5, .int y5), (4, .int y3), (0, .ref h0), (1, .int (nI e_)), (2, .int x), (3, .int y)] := hl
                  refine lv_aload_n hx hb d_Model_arrival_218 rfl (lv_at hl 4 rfl) ?_
                  refine va_get (D := D) (ci := 7) (v := .ref a_gd) (C := R_Model) (T := F_Model) (N := 28) hx hb hts hin_Model hown hK hP 0 rfl rfl 11 (by decide) (hts _ (xm ww_544)) (fun _ h9 => h9) rfl d_Model_arrival_219 ?_
                  refine lv_iload_n hx hb d_Model_arrival_222 rfl (lv_at hl 5 rfl) ?_
                  refine lv_aload_n hx hb d_Model_arrival_223 rfl (lv_at hl 4 rfl) ?_
                  refine va_get (D := D) (ci := 7) (v := .ref a_ti) (C := R_Model) (T := F_Model) (N := 28) hx hb hts hin_Model hown hK hP 0 rfl rfl 10 (by decide) (hts _ (xm ww_543)) (fun _ h9 => h9) rfl d_Model_arrival_224 ?_
                  refine lv_iload_n hx hb d_Model_arrival_227 rfl (lv_at hl 5 rfl) ?_
                  refine xiald (k := e_) hx hb hK hP 7 0 rfl rfl rfl he_ (by decide) d_Model_arrival_228 ?_
                  refine lv_iconst (v := 1) hx hb d_Model_arrival_229 rfl ?_
                  refine lv_iadd hx hb d_Model_arrival_230 ?_
                  refine lv_bipush (v := 64) hx hb d_Model_arrival_231 rfl ?_
                  refine lv_irem hx hb d_Model_arrival_233 (by decide) ?_
                  refine lv_iload hx hb d_Model_arrival_234 (lv_at hl 0 rfl) ?_
                  have J16 : ∀ (y17 : Int32) (H : Heap) (locs : List Loc), y17 = (if (((ti e_) + 1) - ((ti e_) + 1) / 64 * 64) = (x - 260) then ((gd e_) + 1) else (gd e_)) → va_P D vwCl [(h0, .inr (7, [.int tg, .ref a_st, .ref a_ck, .ref a_en, .ref a_au, .ref a_he, .ref a_qu, .ref a_lo, .ref a_ow, .ref a_fl, .ref a_ti, .ref a_gd, .ref a_ak, .ref a_sp, .ref a_se, .ref a_sd, .ref a_rw, .ref a_sz, .ref a_op, .ref a_th, .ref a_me, .ref a_pk, .int (nI kc), .int cm, .int su, .ref a_re, .int (nI kq), .ref a_dr])), (a_st, .inl (cI, 2, .inl st)), (a_ck, .inl (cI, 2, .inl ck)), (a_he, .inl (cZ, 2, .inl he)), (a_qu, .inl (cZ, 2, .inl (upd qu e_ y3))), (a_lo, .inl (cI, 2, .inl lo)), (a_ow, .inl (cI, 2, .inl ow)), (a_ti, .inl (cI, 2, .inl ti)), (a_gd, .inl (cI, 2, .inl gd)), (a_op, .inl (cZ, 4, .inl op)), (a_rw, .inl (cI, 256, .inl rw)), (a_sz, .inl (cI, 4, .inl (szf Ls)))] H → va_D A [(h0, .inr (7, [.int tg, .ref a_st, .ref a_ck, .ref a_en, .ref a_au, .ref a_he, .ref a_qu, .ref a_lo, .ref a_ow, .ref a_fl, .ref a_ti, .ref a_gd, .ref a_ak, .ref a_sp, .ref a_se, .ref a_sd, .ref a_rw, .ref a_sz, .ref a_op, .ref a_th, .ref a_me, .ref a_pk, .int (nI kc), .int cm, .int su, .ref a_re, .int (nI kq), .ref a_dr])), (a_st, .inl (cI, 2, .inl st)), (a_ck, .inl (cI, 2, .inl ck)), (a_he, .inl (cZ, 2, .inl he)), (a_qu, .inl (cZ, 2, .inl (upd qu e_ y3))), (a_lo, .inl (cI, 2, .inl lo)), (a_ow, .inl (cI, 2, .inl ow)), (a_ti, .inl (cI, 2, .inl ti)), (a_gd, .inl (cI, 2, .inl gd)), (a_op, .inl (cZ, 4, .inl op)), (a_rw, .inl (cI, 256, .inl rw)), (a_sz, .inl (cI, 4, .inl (szf Ls)))] → va_S A s.heap H locs → W p l e rm_Model_arrival s m args below meth c H locs 0 0 Q (F0 m 256 ls [.int y17, .int (nI e_), .ref a_gd]) := by
                    intro y17 H locs hy17 hP hD hS
                    replace hq := hq.trans (bnd_eq hy17)
                    try dsimp only at hq
                    refine xiast (k := e_) hx hb hK hP hD hS 8 0 rfl rfl rfl he_ (by decide) d_Model_arrival_256 (fun H locs hP hD hS => ?_)
                    replace hP : va_P D vwCl [(h0, .inr (7, [.int tg, .ref a_st, .ref a_ck, .ref a_en, .ref a_au, .ref a_he, .ref a_qu, .ref a_lo, .ref a_ow, .ref a_fl, .ref a_ti, .ref a_gd, .ref a_ak, .ref a_sp, .ref a_se, .ref a_sd, .ref a_rw, .ref a_sz, .ref a_op, .ref a_th, .ref a_me, .ref a_pk, .int (nI kc), .int cm, .int su, .ref a_re, .int (nI kq), .ref a_dr])), (a_st, .inl (cI, 2, .inl st)), (a_ck, .inl (cI, 2, .inl ck)), (a_he, .inl (cZ, 2, .inl he)), (a_qu, .inl (cZ, 2, .inl (upd qu e_ y3))), (a_lo, .inl (cI, 2, .inl lo)), (a_ow, .inl (cI, 2, .inl ow)), (a_ti, .inl (cI, 2, .inl ti)), (a_gd, .inl (cI, 2, .inl (upd gd e_ y17))), (a_op, .inl (cZ, 4, .inl op)), (a_rw, .inl (cI, 256, .inl rw)), (a_sz, .inl (cI, 4, .inl (szf Ls)))] H := hP
                    replace hD : va_D A [(h0, .inr (7, [.int tg, .ref a_st, .ref a_ck, .ref a_en, .ref a_au, .ref a_he, .ref a_qu, .ref a_lo, .ref a_ow, .ref a_fl, .ref a_ti, .ref a_gd, .ref a_ak, .ref a_sp, .ref a_se, .ref a_sd, .ref a_rw, .ref a_sz, .ref a_op, .ref a_th, .ref a_me, .ref a_pk, .int (nI kc), .int cm, .int su, .ref a_re, .int (nI kq), .ref a_dr])), (a_st, .inl (cI, 2, .inl st)), (a_ck, .inl (cI, 2, .inl ck)), (a_he, .inl (cZ, 2, .inl he)), (a_qu, .inl (cZ, 2, .inl (upd qu e_ y3))), (a_lo, .inl (cI, 2, .inl lo)), (a_ow, .inl (cI, 2, .inl ow)), (a_ti, .inl (cI, 2, .inl ti)), (a_gd, .inl (cI, 2, .inl (upd gd e_ y17))), (a_op, .inl (cZ, 4, .inl op)), (a_rw, .inl (cI, 256, .inl rw)), (a_sz, .inl (cI, 4, .inl (szf Ls)))] := hD
                    refine lv_aload_n hx hb d_Model_arrival_257 rfl (lv_at hl 4 rfl) ?_
                    refine va_get (D := D) (ci := 7) (v := .ref a_ti) (C := R_Model) (T := F_Model) (N := 28) hx hb hts hin_Model hown hK hP 0 rfl rfl 10 (by decide) (hts _ (xm ww_543)) (fun _ h9 => h9) rfl d_Model_arrival_258 ?_
                    refine lv_iload_n hx hb d_Model_arrival_261 rfl (lv_at hl 5 rfl) ?_
                    refine lv_iload hx hb d_Model_arrival_262 (lv_at hl 0 rfl) ?_
                    refine xiast (k := e_) hx hb hK hP hD hS 7 0 rfl rfl rfl he_ (by decide) d_Model_arrival_264 (fun H locs hP hD hS => ?_)
                    replace hP : va_P D vwCl [(h0, .inr (7, [.int tg, .ref a_st, .ref a_ck, .ref a_en, .ref a_au, .ref a_he, .ref a_qu, .ref a_lo, .ref a_ow, .ref a_fl, .ref a_ti, .ref a_gd, .ref a_ak, .ref a_sp, .ref a_se, .ref a_sd, .ref a_rw, .ref a_sz, .ref a_op, .ref a_th, .ref a_me, .ref a_pk, .int (nI kc), .int cm, .int su, .ref a_re, .int (nI kq), .ref a_dr])), (a_st, .inl (cI, 2, .inl st)), (a_ck, .inl (cI, 2, .inl ck)), (a_he, .inl (cZ, 2, .inl he)), (a_qu, .inl (cZ, 2, .inl (upd qu e_ y3))), (a_lo, .inl (cI, 2, .inl lo)), (a_ow, .inl (cI, 2, .inl ow)), (a_ti, .inl (cI, 2, .inl (upd ti e_ (x - 260)))), (a_gd, .inl (cI, 2, .inl (upd gd e_ y17))), (a_op, .inl (cZ, 4, .inl op)), (a_rw, .inl (cI, 256, .inl rw)), (a_sz, .inl (cI, 4, .inl (szf Ls)))] H := hP
                    replace hD : va_D A [(h0, .inr (7, [.int tg, .ref a_st, .ref a_ck, .ref a_en, .ref a_au, .ref a_he, .ref a_qu, .ref a_lo, .ref a_ow, .ref a_fl, .ref a_ti, .ref a_gd, .ref a_ak, .ref a_sp, .ref a_se, .ref a_sd, .ref a_rw, .ref a_sz, .ref a_op, .ref a_th, .ref a_me, .ref a_pk, .int (nI kc), .int cm, .int su, .ref a_re, .int (nI kq), .ref a_dr])), (a_st, .inl (cI, 2, .inl st)), (a_ck, .inl (cI, 2, .inl ck)), (a_he, .inl (cZ, 2, .inl he)), (a_qu, .inl (cZ, 2, .inl (upd qu e_ y3))), (a_lo, .inl (cI, 2, .inl lo)), (a_ow, .inl (cI, 2, .inl ow)), (a_ti, .inl (cI, 2, .inl (upd ti e_ (x - 260)))), (a_gd, .inl (cI, 2, .inl (upd gd e_ y17))), (a_op, .inl (cZ, 4, .inl op)), (a_rw, .inl (cI, 256, .inl rw)), (a_sz, .inl (cI, 4, .inl (szf Ls)))] := hD
                    refine lv_goto (tgt := 310) hx hb d_Model_arrival_265 rfl ?_
                    refine lv_iconst (v := 0) hx hb d_Model_arrival_310 rfl ?_
                    exact hret 0 (st, ck, he, upd qu e_ y3, lo, ow, upd ti e_ (x - 260), upd gd e_ y17, op, Ls, rw) ⟨hq.symm, hM, (Or.inl rfl)⟩ _ _ _ _ (Or.inl rfl) hP hD hS d_Model_arrival_311
                  have hv : ((if (((ti e_) + 1) - ((ti e_) + 1) / 64 * 64) = (x - 260) then ((gd e_) + 1) else (gd e_)) : Int32) = (if (((ti e_) + 1) - ((ti e_) + 1) / 64 * 64) = (x - 260) then ((gd e_) + 1) else (gd e_)) := rfl
                  refine lv_icmp_ne (tgt := 250) hx hb d_Model_arrival_236 rfl (fun h18 => ?_) (fun h18 => ?_)
                  · replace hv := hv.trans (if_neg h18)
                    refine lv_aload_n hx hb d_Model_arrival_250 rfl (lv_at hl 4 rfl) ?_
                    refine va_get (D := D) (ci := 7) (v := .ref a_gd) (C := R_Model) (T := F_Model) (N := 28) hx hb hts hin_Model hown hK hP 0 rfl rfl 11 (by decide) (hts _ (xm ww_544)) (fun _ h9 => h9) rfl d_Model_arrival_251 ?_
                    refine lv_iload_n hx hb d_Model_arrival_254 rfl (lv_at hl 5 rfl) ?_
                    refine xiald (k := e_) hx hb hK hP 8 0 rfl rfl rfl he_ (by decide) d_Model_arrival_255 ?_
                    exact J16 _ _ _ hv.symm hP hD hS
                  replace hv := hv.trans (if_pos h18)
                  refine lv_aload_n hx hb d_Model_arrival_239 rfl (lv_at hl 4 rfl) ?_
                  refine va_get (D := D) (ci := 7) (v := .ref a_gd) (C := R_Model) (T := F_Model) (N := 28) hx hb hts hin_Model hown hK hP 0 rfl rfl 11 (by decide) (hts _ (xm ww_544)) (fun _ h9 => h9) rfl d_Model_arrival_240 ?_
                  refine lv_iload_n hx hb d_Model_arrival_243 rfl (lv_at hl 5 rfl) ?_
                  refine xiald (k := e_) hx hb hK hP 8 0 rfl rfl rfl he_ (by decide) d_Model_arrival_244 ?_
                  refine lv_iconst (v := 1) hx hb d_Model_arrival_245 rfl ?_
                  refine lv_iadd hx hb d_Model_arrival_246 ?_
                  refine lv_goto (tgt := 256) hx hb d_Model_arrival_247 rfl ?_
                  exact J16 _ _ _ hv.symm hP hD hS
                replace hq := hq.trans (if_pos h10)
                refine lv_aload_n hx hb d_Model_arrival_147 rfl (lv_at hl 3 rfl) ?_
                refine va_get (D := D) (ci := 7) (v := .ref a_lo) (C := R_Model) (T := F_Model) (N := 28) hx hb hts hin_Model hown hK hP 0 rfl rfl 7 (by decide) (hts _ (xm ww_540)) (fun _ h9 => h9) rfl d_Model_arrival_148 ?_
                refine lv_iload_n hx hb d_Model_arrival_151 rfl (lv_at hl 4 rfl) ?_
                refine lv_aload_n hx hb d_Model_arrival_152 rfl (lv_at hl 3 rfl) ?_
                refine va_get (D := D) (ci := 7) (v := .ref a_lo) (C := R_Model) (T := F_Model) (N := 28) hx hb hts hin_Model hown hK hP 0 rfl rfl 7 (by decide) (hts _ (xm ww_540)) (fun _ h9 => h9) rfl d_Model_arrival_153 ?_
                refine lv_iload_n hx hb d_Model_arrival_156 rfl (lv_at hl 4 rfl) ?_
                refine xiald (k := e_) hx hb hK hP 5 0 rfl rfl rfl he_ (by decide) d_Model_arrival_157 ?_
                refine lv_bipush (v := 8) hx hb d_Model_arrival_158 rfl ?_
                refine lv_iadd hx hb d_Model_arrival_160 ?_
                refine xiast (k := e_) hx hb hK hP hD hS 5 0 rfl rfl rfl he_ (by decide) d_Model_arrival_161 (fun H locs hP hD hS => ?_)
                replace hP : va_P D vwCl [(h0, .inr (7, [.int tg, .ref a_st, .ref a_ck, .ref a_en, .ref a_au, .ref a_he, .ref a_qu, .ref a_lo, .ref a_ow, .ref a_fl, .ref a_ti, .ref a_gd, .ref a_ak, .ref a_sp, .ref a_se, .ref a_sd, .ref a_rw, .ref a_sz, .ref a_op, .ref a_th, .ref a_me, .ref a_pk, .int (nI kc), .int cm, .int su, .ref a_re, .int (nI kq), .ref a_dr])), (a_st, .inl (cI, 2, .inl st)), (a_ck, .inl (cI, 2, .inl ck)), (a_he, .inl (cZ, 2, .inl he)), (a_qu, .inl (cZ, 2, .inl (upd qu e_ y3))), (a_lo, .inl (cI, 2, .inl (upd lo e_ ((lo e_) + 8)))), (a_ow, .inl (cI, 2, .inl ow)), (a_ti, .inl (cI, 2, .inl ti)), (a_gd, .inl (cI, 2, .inl gd)), (a_op, .inl (cZ, 4, .inl op)), (a_rw, .inl (cI, 256, .inl rw)), (a_sz, .inl (cI, 4, .inl (szf Ls)))] H := hP
                replace hD : va_D A [(h0, .inr (7, [.int tg, .ref a_st, .ref a_ck, .ref a_en, .ref a_au, .ref a_he, .ref a_qu, .ref a_lo, .ref a_ow, .ref a_fl, .ref a_ti, .ref a_gd, .ref a_ak, .ref a_sp, .ref a_se, .ref a_sd, .ref a_rw, .ref a_sz, .ref a_op, .ref a_th, .ref a_me, .ref a_pk, .int (nI kc), .int cm, .int su, .ref a_re, .int (nI kq), .ref a_dr])), (a_st, .inl (cI, 2, .inl st)), (a_ck, .inl (cI, 2, .inl ck)), (a_he, .inl (cZ, 2, .inl he)), (a_qu, .inl (cZ, 2, .inl (upd qu e_ y3))), (a_lo, .inl (cI, 2, .inl (upd lo e_ ((lo e_) + 8)))), (a_ow, .inl (cI, 2, .inl ow)), (a_ti, .inl (cI, 2, .inl ti)), (a_gd, .inl (cI, 2, .inl gd)), (a_op, .inl (cZ, 4, .inl op)), (a_rw, .inl (cI, 256, .inl rw)), (a_sz, .inl (cI, 4, .inl (szf Ls)))] := hD
                refine lv_iload hx hb d_Model_arrival_162 (lv_at hl 0 rfl) ?_
                refine lv_if_ne (tgt := 310) hx hb d_Model_arrival_164 rfl (fun h19 => ?_) (fun h19 => ?_)
                · replace hq := hq.trans (if_neg h19)
                  refine lv_iconst (v := 0) hx hb d_Model_arrival_310 rfl ?_
                  exact hret 0 (st, ck, he, upd qu e_ y3, upd lo e_ ((lo e_) + 8), ow, ti, gd, op, Ls, rw) ⟨hq.symm, hM, (Or.inl rfl)⟩ _ _ _ _ (Or.inl rfl) hP hD hS d_Model_arrival_311
                replace hq := hq.trans (if_pos h19)
                refine lv_aload_n hx hb d_Model_arrival_167 rfl (lv_at hl 3 rfl) ?_
                refine va_get (D := D) (ci := 7) (v := .ref a_st) (C := R_Model) (T := F_Model) (N := 28) hx hb hts hin_Model hown hK hP 0 rfl rfl 1 (by decide) (hts _ (xm ww_534)) (fun _ h9 => h9) rfl d_Model_arrival_168 ?_
                refine lv_iload_n hx hb d_Model_arrival_171 rfl (lv_at hl 4 rfl) ?_
                refine lv_iconst (v := 5) hx hb d_Model_arrival_172 rfl ?_
                refine xiast (k := e_) hx hb hK hP hD hS 1 0 rfl rfl rfl he_ (by decide) d_Model_arrival_173 (fun H locs hP hD hS => ?_)
                replace hP : va_P D vwCl [(h0, .inr (7, [.int tg, .ref a_st, .ref a_ck, .ref a_en, .ref a_au, .ref a_he, .ref a_qu, .ref a_lo, .ref a_ow, .ref a_fl, .ref a_ti, .ref a_gd, .ref a_ak, .ref a_sp, .ref a_se, .ref a_sd, .ref a_rw, .ref a_sz, .ref a_op, .ref a_th, .ref a_me, .ref a_pk, .int (nI kc), .int cm, .int su, .ref a_re, .int (nI kq), .ref a_dr])), (a_st, .inl (cI, 2, .inl (upd st e_ 5))), (a_ck, .inl (cI, 2, .inl ck)), (a_he, .inl (cZ, 2, .inl he)), (a_qu, .inl (cZ, 2, .inl (upd qu e_ y3))), (a_lo, .inl (cI, 2, .inl (upd lo e_ ((lo e_) + 8)))), (a_ow, .inl (cI, 2, .inl ow)), (a_ti, .inl (cI, 2, .inl ti)), (a_gd, .inl (cI, 2, .inl gd)), (a_op, .inl (cZ, 4, .inl op)), (a_rw, .inl (cI, 256, .inl rw)), (a_sz, .inl (cI, 4, .inl (szf Ls)))] H := hP
                replace hD : va_D A [(h0, .inr (7, [.int tg, .ref a_st, .ref a_ck, .ref a_en, .ref a_au, .ref a_he, .ref a_qu, .ref a_lo, .ref a_ow, .ref a_fl, .ref a_ti, .ref a_gd, .ref a_ak, .ref a_sp, .ref a_se, .ref a_sd, .ref a_rw, .ref a_sz, .ref a_op, .ref a_th, .ref a_me, .ref a_pk, .int (nI kc), .int cm, .int su, .ref a_re, .int (nI kq), .ref a_dr])), (a_st, .inl (cI, 2, .inl (upd st e_ 5))), (a_ck, .inl (cI, 2, .inl ck)), (a_he, .inl (cZ, 2, .inl he)), (a_qu, .inl (cZ, 2, .inl (upd qu e_ y3))), (a_lo, .inl (cI, 2, .inl (upd lo e_ ((lo e_) + 8)))), (a_ow, .inl (cI, 2, .inl ow)), (a_ti, .inl (cI, 2, .inl ti)), (a_gd, .inl (cI, 2, .inl gd)), (a_op, .inl (cZ, 4, .inl op)), (a_rw, .inl (cI, 256, .inl rw)), (a_sz, .inl (cI, 4, .inl (szf Ls)))] := hD
                refine lv_aload_n hx hb d_Model_arrival_174 rfl (lv_at hl 3 rfl) ?_
                refine va_get (D := D) (ci := 7) (v := .ref a_ck) (C := R_Model) (T := F_Model) (N := 28) hx hb hts hin_Model hown hK hP 0 rfl rfl 2 (by decide) (hts _ (xm ww_535)) (fun _ h9 => h9) rfl d_Model_arrival_175 ?_
                refine lv_iload_n hx hb d_Model_arrival_178 rfl (lv_at hl 4 rfl) ?_
                refine lv_iconst (v := (-1)) hx hb d_Model_arrival_179 rfl ?_
                refine xiast (k := e_) hx hb hK hP hD hS 2 0 rfl rfl rfl he_ (by decide) d_Model_arrival_180 (fun H locs hP hD hS => ?_)
                replace hP : va_P D vwCl [(h0, .inr (7, [.int tg, .ref a_st, .ref a_ck, .ref a_en, .ref a_au, .ref a_he, .ref a_qu, .ref a_lo, .ref a_ow, .ref a_fl, .ref a_ti, .ref a_gd, .ref a_ak, .ref a_sp, .ref a_se, .ref a_sd, .ref a_rw, .ref a_sz, .ref a_op, .ref a_th, .ref a_me, .ref a_pk, .int (nI kc), .int cm, .int su, .ref a_re, .int (nI kq), .ref a_dr])), (a_st, .inl (cI, 2, .inl (upd st e_ 5))), (a_ck, .inl (cI, 2, .inl (upd ck e_ (-1)))), (a_he, .inl (cZ, 2, .inl he)), (a_qu, .inl (cZ, 2, .inl (upd qu e_ y3))), (a_lo, .inl (cI, 2, .inl (upd lo e_ ((lo e_) + 8)))), (a_ow, .inl (cI, 2, .inl ow)), (a_ti, .inl (cI, 2, .inl ti)), (a_gd, .inl (cI, 2, .inl gd)), (a_op, .inl (cZ, 4, .inl op)), (a_rw, .inl (cI, 256, .inl rw)), (a_sz, .inl (cI, 4, .inl (szf Ls)))] H := hP
                replace hD : va_D A [(h0, .inr (7, [.int tg, .ref a_st, .ref a_ck, .ref a_en, .ref a_au, .ref a_he, .ref a_qu, .ref a_lo, .ref a_ow, .ref a_fl, .ref a_ti, .ref a_gd, .ref a_ak, .ref a_sp, .ref a_se, .ref a_sd, .ref a_rw, .ref a_sz, .ref a_op, .ref a_th, .ref a_me, .ref a_pk, .int (nI kc), .int cm, .int su, .ref a_re, .int (nI kq), .ref a_dr])), (a_st, .inl (cI, 2, .inl (upd st e_ 5))), (a_ck, .inl (cI, 2, .inl (upd ck e_ (-1)))), (a_he, .inl (cZ, 2, .inl he)), (a_qu, .inl (cZ, 2, .inl (upd qu e_ y3))), (a_lo, .inl (cI, 2, .inl (upd lo e_ ((lo e_) + 8)))), (a_ow, .inl (cI, 2, .inl ow)), (a_ti, .inl (cI, 2, .inl ti)), (a_gd, .inl (cI, 2, .inl gd)), (a_op, .inl (cZ, 4, .inl op)), (a_rw, .inl (cI, 256, .inl rw)), (a_sz, .inl (cI, 4, .inl (szf Ls)))] := hD
                refine lv_aload_n hx hb d_Model_arrival_181 rfl (lv_at hl 3 rfl) ?_
                refine va_get (D := D) (ci := 7) (v := .ref a_op) (C := R_Model) (T := F_Model) (N := 28) hx hb hts hin_Model hown hK hP 0 rfl rfl 18 (by decide) (hts _ (xm ww_551)) (fun _ h9 => h9) rfl d_Model_arrival_182 ?_
                refine lv_iconst (v := 2) hx hb d_Model_arrival_185 rfl ?_
                refine lv_iload_n hx hb d_Model_arrival_186 rfl (lv_at hl 4 rfl) ?_
                refine lv_imul hx hb d_Model_arrival_187 ?_
                refine xtop (y := nI (2 * e_)) (pk_mul 2 e_) ?_
                refine lv_iconst (v := 0) hx hb d_Model_arrival_188 rfl ?_
                refine xzast (k := (2 * e_)) hx hb hK hP hD hS 9 1 rfl rfl rfl (by omega) (by decide) (Or.inl rfl) d_Model_arrival_189 (fun H locs hP hD hS => ?_)
                replace hP : va_P D vwCl [(h0, .inr (7, [.int tg, .ref a_st, .ref a_ck, .ref a_en, .ref a_au, .ref a_he, .ref a_qu, .ref a_lo, .ref a_ow, .ref a_fl, .ref a_ti, .ref a_gd, .ref a_ak, .ref a_sp, .ref a_se, .ref a_sd, .ref a_rw, .ref a_sz, .ref a_op, .ref a_th, .ref a_me, .ref a_pk, .int (nI kc), .int cm, .int su, .ref a_re, .int (nI kq), .ref a_dr])), (a_st, .inl (cI, 2, .inl (upd st e_ 5))), (a_ck, .inl (cI, 2, .inl (upd ck e_ (-1)))), (a_he, .inl (cZ, 2, .inl he)), (a_qu, .inl (cZ, 2, .inl (upd qu e_ y3))), (a_lo, .inl (cI, 2, .inl (upd lo e_ ((lo e_) + 8)))), (a_ow, .inl (cI, 2, .inl ow)), (a_ti, .inl (cI, 2, .inl ti)), (a_gd, .inl (cI, 2, .inl gd)), (a_op, .inl (cZ, 4, .inl (upd op (2 * e_) 0))), (a_rw, .inl (cI, 256, .inl rw)), (a_sz, .inl (cI, 4, .inl (szf Ls)))] H := hP
                replace hD : va_D A [(h0, .inr (7, [.int tg, .ref a_st, .ref a_ck, .ref a_en, .ref a_au, .ref a_he, .ref a_qu, .ref a_lo, .ref a_ow, .ref a_fl, .ref a_ti, .ref a_gd, .ref a_ak, .ref a_sp, .ref a_se, .ref a_sd, .ref a_rw, .ref a_sz, .ref a_op, .ref a_th, .ref a_me, .ref a_pk, .int (nI kc), .int cm, .int su, .ref a_re, .int (nI kq), .ref a_dr])), (a_st, .inl (cI, 2, .inl (upd st e_ 5))), (a_ck, .inl (cI, 2, .inl (upd ck e_ (-1)))), (a_he, .inl (cZ, 2, .inl he)), (a_qu, .inl (cZ, 2, .inl (upd qu e_ y3))), (a_lo, .inl (cI, 2, .inl (upd lo e_ ((lo e_) + 8)))), (a_ow, .inl (cI, 2, .inl ow)), (a_ti, .inl (cI, 2, .inl ti)), (a_gd, .inl (cI, 2, .inl gd)), (a_op, .inl (cZ, 4, .inl (upd op (2 * e_) 0))), (a_rw, .inl (cI, 256, .inl rw)), (a_sz, .inl (cI, 4, .inl (szf Ls)))] := hD
                refine lv_aload_n hx hb d_Model_arrival_190 rfl (lv_at hl 3 rfl) ?_
                refine va_get (D := D) (ci := 7) (v := .ref a_op) (C := R_Model) (T := F_Model) (N := 28) hx hb hts hin_Model hown hK hP 0 rfl rfl 18 (by decide) (hts _ (xm ww_551)) (fun _ h9 => h9) rfl d_Model_arrival_191 ?_
                refine lv_iconst (v := 2) hx hb d_Model_arrival_194 rfl ?_
                refine lv_iload_n hx hb d_Model_arrival_195 rfl (lv_at hl 4 rfl) ?_
                refine lv_imul hx hb d_Model_arrival_196 ?_
                refine xtop (y := nI (2 * e_)) (pk_mul 2 e_) ?_
                refine lv_iconst (v := 1) hx hb d_Model_arrival_197 rfl ?_
                refine lv_iadd hx hb d_Model_arrival_198 ?_
                refine xtop (y := nI (2 * e_ + 1)) (nI_add (2 * e_) 1) ?_
                refine lv_iconst (v := 0) hx hb d_Model_arrival_199 rfl ?_
                refine xzast (k := (2 * e_ + 1)) hx hb hK hP hD hS 9 1 rfl rfl rfl (by omega) (by decide) (Or.inl rfl) d_Model_arrival_200 (fun H locs hP hD hS => ?_)
                replace hP : va_P D vwCl [(h0, .inr (7, [.int tg, .ref a_st, .ref a_ck, .ref a_en, .ref a_au, .ref a_he, .ref a_qu, .ref a_lo, .ref a_ow, .ref a_fl, .ref a_ti, .ref a_gd, .ref a_ak, .ref a_sp, .ref a_se, .ref a_sd, .ref a_rw, .ref a_sz, .ref a_op, .ref a_th, .ref a_me, .ref a_pk, .int (nI kc), .int cm, .int su, .ref a_re, .int (nI kq), .ref a_dr])), (a_st, .inl (cI, 2, .inl (upd st e_ 5))), (a_ck, .inl (cI, 2, .inl (upd ck e_ (-1)))), (a_he, .inl (cZ, 2, .inl he)), (a_qu, .inl (cZ, 2, .inl (upd qu e_ y3))), (a_lo, .inl (cI, 2, .inl (upd lo e_ ((lo e_) + 8)))), (a_ow, .inl (cI, 2, .inl ow)), (a_ti, .inl (cI, 2, .inl ti)), (a_gd, .inl (cI, 2, .inl gd)), (a_op, .inl (cZ, 4, .inl (upd (upd op (2 * e_) 0) (2 * e_ + 1) 0))), (a_rw, .inl (cI, 256, .inl rw)), (a_sz, .inl (cI, 4, .inl (szf Ls)))] H := hP
                replace hD : va_D A [(h0, .inr (7, [.int tg, .ref a_st, .ref a_ck, .ref a_en, .ref a_au, .ref a_he, .ref a_qu, .ref a_lo, .ref a_ow, .ref a_fl, .ref a_ti, .ref a_gd, .ref a_ak, .ref a_sp, .ref a_se, .ref a_sd, .ref a_rw, .ref a_sz, .ref a_op, .ref a_th, .ref a_me, .ref a_pk, .int (nI kc), .int cm, .int su, .ref a_re, .int (nI kq), .ref a_dr])), (a_st, .inl (cI, 2, .inl (upd st e_ 5))), (a_ck, .inl (cI, 2, .inl (upd ck e_ (-1)))), (a_he, .inl (cZ, 2, .inl he)), (a_qu, .inl (cZ, 2, .inl (upd qu e_ y3))), (a_lo, .inl (cI, 2, .inl (upd lo e_ ((lo e_) + 8)))), (a_ow, .inl (cI, 2, .inl ow)), (a_ti, .inl (cI, 2, .inl ti)), (a_gd, .inl (cI, 2, .inl gd)), (a_op, .inl (cZ, 4, .inl (upd (upd op (2 * e_) 0) (2 * e_ + 1) 0))), (a_rw, .inl (cI, 256, .inl rw)), (a_sz, .inl (cI, 4, .inl (szf Ls)))] := hD
                refine lv_goto (tgt := 310) hx hb d_Model_arrival_201 rfl ?_
                refine lv_iconst (v := 0) hx hb d_Model_arrival_310 rfl ?_
                exact hret 0 (upd st e_ 5, upd ck e_ (-1), he, upd qu e_ y3, upd lo e_ ((lo e_) + 8), ow, ti, gd, upd (upd op (2 * e_) 0) (2 * e_ + 1) 0, Ls, rw) ⟨hq.symm, hM, (Or.inl rfl)⟩ _ _ _ _ (Or.inl rfl) hP hD hS d_Model_arrival_311
              replace hq := hq.trans (if_pos h9)
              refine lv_aload_n hx hb d_Model_arrival_130 rfl (lv_at hl 3 rfl) ?_
              refine va_get (D := D) (ci := 7) (v := .ref a_he) (C := R_Model) (T := F_Model) (N := 28) hx hb hts hin_Model hown hK hP 0 rfl rfl 5 (by decide) (hts _ (xm ww_538)) (fun _ h9 => h9) rfl d_Model_arrival_131 ?_
              refine lv_iload_n hx hb d_Model_arrival_134 rfl (lv_at hl 4 rfl) ?_
              refine lv_iconst (v := 1) hx hb d_Model_arrival_135 rfl ?_
              refine xzast (k := e_) hx hb hK hP hD hS 3 1 rfl rfl rfl he_ (by decide) (Or.inr rfl) d_Model_arrival_136 (fun H locs hP hD hS => ?_)
              replace hP : va_P D vwCl [(h0, .inr (7, [.int tg, .ref a_st, .ref a_ck, .ref a_en, .ref a_au, .ref a_he, .ref a_qu, .ref a_lo, .ref a_ow, .ref a_fl, .ref a_ti, .ref a_gd, .ref a_ak, .ref a_sp, .ref a_se, .ref a_sd, .ref a_rw, .ref a_sz, .ref a_op, .ref a_th, .ref a_me, .ref a_pk, .int (nI kc), .int cm, .int su, .ref a_re, .int (nI kq), .ref a_dr])), (a_st, .inl (cI, 2, .inl st)), (a_ck, .inl (cI, 2, .inl ck)), (a_he, .inl (cZ, 2, .inl (upd he e_ 1))), (a_qu, .inl (cZ, 2, .inl (upd qu e_ y3))), (a_lo, .inl (cI, 2, .inl lo)), (a_ow, .inl (cI, 2, .inl ow)), (a_ti, .inl (cI, 2, .inl ti)), (a_gd, .inl (cI, 2, .inl gd)), (a_op, .inl (cZ, 4, .inl op)), (a_rw, .inl (cI, 256, .inl rw)), (a_sz, .inl (cI, 4, .inl (szf Ls)))] H := hP
              replace hD : va_D A [(h0, .inr (7, [.int tg, .ref a_st, .ref a_ck, .ref a_en, .ref a_au, .ref a_he, .ref a_qu, .ref a_lo, .ref a_ow, .ref a_fl, .ref a_ti, .ref a_gd, .ref a_ak, .ref a_sp, .ref a_se, .ref a_sd, .ref a_rw, .ref a_sz, .ref a_op, .ref a_th, .ref a_me, .ref a_pk, .int (nI kc), .int cm, .int su, .ref a_re, .int (nI kq), .ref a_dr])), (a_st, .inl (cI, 2, .inl st)), (a_ck, .inl (cI, 2, .inl ck)), (a_he, .inl (cZ, 2, .inl (upd he e_ 1))), (a_qu, .inl (cZ, 2, .inl (upd qu e_ y3))), (a_lo, .inl (cI, 2, .inl lo)), (a_ow, .inl (cI, 2, .inl ow)), (a_ti, .inl (cI, 2, .inl ti)), (a_gd, .inl (cI, 2, .inl gd)), (a_op, .inl (cZ, 4, .inl op)), (a_rw, .inl (cI, 256, .inl rw)), (a_sz, .inl (cI, 4, .inl (szf Ls)))] := hD
              refine lv_goto (tgt := 310) hx hb d_Model_arrival_137 rfl ?_
              refine lv_iconst (v := 0) hx hb d_Model_arrival_310 rfl ?_
              exact hret 0 (st, ck, upd he e_ 1, upd qu e_ y3, lo, ow, ti, gd, op, Ls, rw) ⟨hq.symm, hM, (Or.inl rfl)⟩ _ _ _ _ (Or.inl rfl) hP hD hS d_Model_arrival_311
            refine lv_iload_n hx hb d_Model_arrival_88 rfl (lv_at hl 6 rfl) ?_
            refine lv_if_ne (tgt := 121) hx hb d_Model_arrival_89 rfl (fun h20 => ?_) (fun h20 => ?_)
            · replace hq := hq.trans (if_neg h20)
              refine lv_iconst (v := 1) hx hb d_Model_arrival_121 rfl ?_
              exact hret 1 (st, ck, he, upd qu e_ y3, lo, ow, ti, gd, op, Ls, rw) ⟨hq.symm, hM, (Or.inr rfl)⟩ _ _ _ _ (Or.inr rfl) hP hD hS d_Model_arrival_122
            replace hq := hq.trans (if_pos h20)
            refine lv_iload_n hx hb d_Model_arrival_92 rfl (lv_at hl 5 rfl) ?_
            refine lv_sipush (v := 259) hx hb d_Model_arrival_93 rfl ?_
            refine lv_icmp_eq (tgt := 123) hx hb d_Model_arrival_96 rfl (fun h21 => ?_) (fun h21 => ?_)
            · replace hq := hq.trans (if_pos h21)
              exact Cs_Model_arrival_123  _ _ _  (lv_sub hl [0, 1, 2, 3, 4, 5, 6] rfl) hP hD hS hq
            replace hq := hq.trans (if_neg h21)
            refine lv_iload hx hb d_Model_arrival_99 (lv_at hl 0 rfl) ?_
            refine lv_if_ne (tgt := 123) hx hb d_Model_arrival_101 rfl (fun h22 => ?_) (fun h22 => ?_)
            · replace hq := hq.trans (if_neg h22)
              exact Cs_Model_arrival_123  _ _ _  (lv_sub hl [0, 1, 2, 3, 4, 5, 6] rfl) hP hD hS hq
            replace hq := hq.trans (if_pos h22)
            refine lv_iload_n hx hb d_Model_arrival_104 rfl (lv_at hl 5 rfl) ?_
            refine lv_sipush (v := 258) hx hb d_Model_arrival_105 rfl ?_
            refine lv_icmp_ne (tgt := 121) hx hb d_Model_arrival_108 rfl (fun h23 => ?_) (fun h23 => ?_)
            · replace hq := hq.trans (if_neg h23)
              refine lv_iconst (v := 1) hx hb d_Model_arrival_121 rfl ?_
              exact hret 1 (st, ck, he, upd qu e_ y3, lo, ow, ti, gd, op, Ls, rw) ⟨hq.symm, hM, (Or.inr rfl)⟩ _ _ _ _ (Or.inr rfl) hP hD hS d_Model_arrival_122
            replace hq := hq.trans (if_pos h23)
            refine lv_aload_n hx hb d_Model_arrival_111 rfl (lv_at hl 3 rfl) ?_
            refine va_get (D := D) (ci := 7) (v := .ref a_st) (C := R_Model) (T := F_Model) (N := 28) hx hb hts hin_Model hown hK hP 0 rfl rfl 1 (by decide) (hts _ (xm ww_534)) (fun _ h9 => h9) rfl d_Model_arrival_112 ?_
            refine lv_iload_n hx hb d_Model_arrival_115 rfl (lv_at hl 4 rfl) ?_
            refine xiald (k := e_) hx hb hK hP 1 0 rfl rfl rfl he_ (by decide) d_Model_arrival_116 ?_
            refine lv_iconst (v := 4) hx hb d_Model_arrival_117 rfl ?_
            refine lv_icmp_eq (tgt := 123) hx hb d_Model_arrival_118 rfl (fun h24 => ?_) (fun h24 => ?_)
            · replace hq := hq.trans (if_pos h24)
              exact Cs_Model_arrival_123  _ _ _  (lv_sub hl [0, 1, 2, 3, 4, 5, 6] rfl) hP hD hS hq
            replace hq := hq.trans (if_neg h24)
            refine lv_iconst (v := 1) hx hb d_Model_arrival_121 rfl ?_
            exact hret 1 (st, ck, he, upd qu e_ y3, lo, ow, ti, gd, op, Ls, rw) ⟨hq.symm, hM, (Or.inr rfl)⟩ _ _ _ _ (Or.inr rfl) hP hD hS d_Model_arrival_122
          have hv : ((if (st e_) = 5 then (1) else (0)) : Int32) = (if (st e_) = 5 then (1) else (0)) := rfl
          refine lv_icmp_ne (tgt := 85) hx hb d_Model_arrival_78 rfl (fun h25 => ?_) (fun h25 => ?_)
          · replace hv := hv.trans (if_neg h25)
            refine lv_iconst (v := 0) hx hb d_Model_arrival_85 rfl ?_
            exact J7 _ _ _ hv.symm (Or.inl rfl) hP hD hS
          replace hv := hv.trans (if_pos h25)
          refine lv_iconst (v := 1) hx hb d_Model_arrival_81 rfl ?_
          refine lv_goto (tgt := 86) hx hb d_Model_arrival_82 rfl ?_
          exact J7 _ _ _ hv.symm (Or.inr rfl) hP hD hS
        replace hq := hq.trans (if_pos h6)
        refine lv_iload hx hb d_Model_arrival_68 (lv_at hl 0 rfl) ?_
        exact hret y5 (st, ck, he, upd qu e_ y3, lo, ow, ti, gd, op, Ls, rw) ⟨hq.symm, hM, hby5⟩ _ _ _ _ hby5 hP hD hS d_Model_arrival_70
      have hv : ((if y3 = 0 then (0) else (if (qu e_) = 0 then (0) else (1))) : Int32) = (if y3 = 0 then (0) else (if (qu e_) = 0 then (0) else (1))) := rfl
      refine lv_if_eq (tgt := 51) hx hb d_Model_arrival_35 rfl (fun h26 => ?_) (fun h26 => ?_)
      · replace hv := hv.trans (if_pos h26)
        refine lv_iconst (v := 0) hx hb d_Model_arrival_51 rfl ?_
        exact J4 _ _ _ hv.symm (Or.inl rfl) hP hD hS
      replace hv := hv.trans (if_neg h26)
      refine lv_aload_n hx hb d_Model_arrival_38 rfl (lv_at hl 1 rfl) ?_
      refine va_get (D := D) (ci := 7) (v := .ref a_qu) (C := R_Model) (T := F_Model) (N := 28) hx hb hts hin_Model hown hK hP 0 rfl rfl 6 (by decide) (hts _ (xm ww_539)) (fun _ h9 => h9) rfl d_Model_arrival_39 ?_
      refine lv_iload_n hx hb d_Model_arrival_42 rfl (lv_at hl 2 rfl) ?_
      refine xzald (k := e_) hx hb hK hP 4 1 rfl rfl rfl he_ (by decide) d_Model_arrival_43 ?_
      refine lv_if_eq (tgt := 51) hx hb d_Model_arrival_44 rfl (fun h27 => ?_) (fun h27 => ?_)
      · replace hv := hv.trans (if_pos h27)
        refine lv_iconst (v := 0) hx hb d_Model_arrival_51 rfl ?_
        exact J4 _ _ _ hv.symm (Or.inl rfl) hP hD hS
      replace hv := hv.trans (if_neg h27)
      refine lv_iconst (v := 1) hx hb d_Model_arrival_47 rfl ?_
      refine lv_goto (tgt := 52) hx hb d_Model_arrival_48 rfl ?_
      exact J4 _ _ _ hv.symm (Or.inr rfl) hP hD hS
    have hv : ((if x = (-3) then (if (he e_) = 0 then (0) else (1)) else (0)) : Int32) = (if x = (-3) then (if (he e_) = 0 then (0) else (1)) else (0)) := rfl
    refine lv_icmp_ne (tgt := 30) hx hb d_Model_arrival_14 rfl (fun h28 => ?_) (fun h28 => ?_)
    · replace hv := hv.trans (if_neg h28)
      refine lv_iconst (v := 0) hx hb d_Model_arrival_30 rfl ?_
      exact J2 _ _ _ hv.symm (Or.inl rfl) hP hD hS
    replace hv := hv.trans (if_pos h28)
    refine lv_aload_n hx hb d_Model_arrival_17 rfl (lv_at hl 0 rfl) ?_
    refine va_get (D := D) (ci := 7) (v := .ref a_he) (C := R_Model) (T := F_Model) (N := 28) hx hb hts hin_Model hown hK hP 0 rfl rfl 5 (by decide) (hts _ (xm ww_538)) (fun _ h9 => h9) rfl d_Model_arrival_18 ?_
    refine lv_iload_n hx hb d_Model_arrival_21 rfl (lv_at hl 1 rfl) ?_
    refine xzald (k := e_) hx hb hK hP 3 1 rfl rfl rfl he_ (by decide) d_Model_arrival_22 ?_
    refine lv_if_eq (tgt := 30) hx hb d_Model_arrival_23 rfl (fun h29 => ?_) (fun h29 => ?_)
    · replace hv := hv.trans (if_pos h29)
      refine lv_iconst (v := 0) hx hb d_Model_arrival_30 rfl ?_
      exact J2 _ _ _ hv.symm (Or.inl rfl) hP hD hS
    replace hv := hv.trans (if_neg h29)
    refine lv_iconst (v := 1) hx hb d_Model_arrival_26 rfl ?_
    refine lv_goto (tgt := 31) hx hb d_Model_arrival_27 rfl ?_
    exact J2 _ _ _ hv.symm (Or.inr rfl) hP hD hS
  replace hq := hq.trans (if_pos h1)
  refine lv_iconst (v := 0) hx hb d_Model_arrival_9 rfl ?_
  exact hret 0 (st, ck, he, qu, lo, ow, ti, gd, op, Ls, rw) ⟨hq.symm, hM, (Or.inl rfl)⟩ _ _ _ _ (Or.inl rfl) hP hD hS d_Model_arrival_10

def s_Model_fall_124 (st : Nat → Int32) (ck : Nat → Int32) (he : Nat → Int32) (qu : Nat → Int32) (lo : Nat → Int32) (ow : Nat → Int32) (fl : Nat → Int32) (e_ : Nat) (th1 : Nat → Int32) (Ls1 : Nat → List Int32) : (Nat → Int32) × (Nat → Int32) × (Nat → Int32) × (Nat → Int32) × (Nat → Int32) × (Nat → Int32) × (Nat → Int32) × (Nat → Int32) × (Nat → List Int32) := (upd st e_ 0, upd ck e_ 0, upd he e_ 0, upd qu e_ 0, upd lo e_ 0, upd ow e_ 0, upd fl e_ ((fl e_) + 1), th1, Ls1)
def lp_fall (st : Nat → Int32) (ck : Nat → Int32) (he : Nat → Int32) (qu : Nat → Int32) (lo : Nat → Int32) (ow : Nat → Int32) (fl : Nat → Int32) (e_ : Nat) : Nat → (Nat → Int32) → (Nat → List Int32) → (Nat → Int32) × (Nat → Int32) × (Nat → Int32) × (Nat → Int32) × (Nat → Int32) × (Nat → Int32) × (Nat → Int32) × (Nat → Int32) × (Nat → List Int32)
  | 0, th2, Ls2 => if (th2 e_) = 0 then (s_Model_fall_124 st ck he qu lo ow fl e_ th2 Ls2) else (s_Model_fall_124 st ck he qu lo ow fl e_ th2 Ls2)
  | nlp_fall + 1, th2, Ls2 => if (th2 e_) = 0 then (s_Model_fall_124 st ck he qu lo ow fl e_ th2 Ls2) else (if (nI ((Ls2 (2 * e_)).length)) ≤ 0 then (s_Model_fall_124 st ck he qu lo ow fl e_ th2 Ls2) else (bnd2 (s_Model_remove Ls2 (2 * e_)) (fun r9 Ls9 => bnd (α := Int32) (if 256 ≤ r9 then (0) else (1)) (fun y11 => lp_fall st ck he qu lo ow fl e_ nlp_fall (upd th2 e_ y11) Ls9))))
def s_Model_fall_55 (st : Nat → Int32) (ck : Nat → Int32) (he : Nat → Int32) (qu : Nat → Int32) (lo : Nat → Int32) (ow : Nat → Int32) (fl : Nat → Int32) (op : Nat → Int32) (th : Nat → Int32) (e_ : Nat) (y2 : Int32) (Ls1 : Nat → List Int32) : (Nat → Int32) × (Nat → Int32) × (Nat → Int32) × (Nat → Int32) × (Nat → Int32) × (Nat → Int32) × (Nat → Int32) × (Nat → Int32) × (Nat → List Int32) := if y2 = 0 then (s_Model_fall_124 st ck he qu lo ow fl e_ th Ls1) else (if (op (2 * e_)) = 0 then (s_Model_fall_124 st ck he qu lo ow fl e_ th Ls1) else (lp_fall st ck he qu lo ow fl e_ ((Ls1 (2 * e_)).length) (upd th e_ 1) Ls1))
def s_Model_fall (st : Nat → Int32) (ck : Nat → Int32) (he : Nat → Int32) (qu : Nat → Int32) (lo : Nat → Int32) (ow : Nat → Int32) (fl : Nat → Int32) (op : Nat → Int32) (th : Nat → Int32) (Ls : Nat → List Int32) (e_ : Nat) : (Nat → Int32) × (Nat → Int32) × (Nat → Int32) × (Nat → Int32) × (Nat → Int32) × (Nat → Int32) × (Nat → Int32) × (Nat → Int32) × (Nat → List Int32) := bnd (α := Int32) (if (st e_) = 5 then (1) else (0)) (fun y2 => if y2 = 0 then (s_Model_fall_55 st ck he qu lo ow fl op th e_ y2 Ls) else (if (op (2 * e_ + 1)) = 0 then (s_Model_fall_55 st ck he qu lo ow fl op th e_ y2 Ls) else (bnd (s_Model_add Ls (2 * e_ + 1) 257) (fun Ls15 => s_Model_fall_55 st ck he qu lo ow fl op th e_ y2 Ls15))))
abbrev rm_Model_fall : Room := { frames := 1, cells := 0, slots := 0, locals := 23 }
set_option maxHeartbeats 4000000 in
set_option maxRecDepth 100000 in
theorem c_Model_fall {l : Launch} {D : va_G} {cI cZ : ClassId} (st : Nat → Int32) (ck : Nat → Int32) (he : Nat → Int32) (qu : Nat → Int32) (lo : Nat → Int32) (ow : Nat → Int32) (fl : Nat → Int32) (op : Nat → Int32) (th : Nat → Int32) (Ls : Nat → List Int32) (e_ : Nat) (h0 : Nat) (a_st : Nat) (a_ck : Nat) (a_en : Nat) (a_au : Nat) (a_he : Nat) (a_qu : Nat) (a_lo : Nat) (a_ow : Nat) (a_fl : Nat) (a_ti : Nat) (a_gd : Nat) (a_ak : Nat) (a_sp : Nat) (a_se : Nat) (a_sd : Nat) (a_rw : Nat) (a_sz : Nat) (a_op : Nat) (a_th : Nat) (a_me : Nat) (a_pk : Nat) (a_re : Nat) (a_dr : Nat) (tg : Int32) (kc : Nat) (cm : Int32) (su : Int32) (kq : Nat) (rw : Nat → Int32) (hM : RepM rw Ls) (he_ : e_ < 2) (hlen : (Ls (2 * e_ + 1)).length < 64) (sz : Nat) : Met l y_Model_fall (w_Model_fall) rm_Model_fall (va_Pc [.ref h0, .int (nI e_)] (xPre xNs D vwCl cI cZ [(h0, .inr (7, [.int tg, .ref a_st, .ref a_ck, .ref a_en, .ref a_au, .ref a_he, .ref a_qu, .ref a_lo, .ref a_ow, .ref a_fl, .ref a_ti, .ref a_gd, .ref a_ak, .ref a_sp, .ref a_se, .ref a_sd, .ref a_rw, .ref a_sz, .ref a_op, .ref a_th, .ref a_me, .ref a_pk, .int (nI kc), .int cm, .int su, .ref a_re, .int (nI kq), .ref a_dr])), (a_st, .inl (cI, 2, .inl st)), (a_ck, .inl (cI, 2, .inl ck)), (a_he, .inl (cZ, 2, .inl he)), (a_qu, .inl (cZ, 2, .inl qu)), (a_lo, .inl (cI, 2, .inl lo)), (a_ow, .inl (cI, 2, .inl ow)), (a_fl, .inl (cI, 2, .inl fl)), (a_op, .inl (cZ, 4, .inl op)), (a_th, .inl (cZ, 2, .inl th)), (a_rw, .inl (cI, 256, .inl rw)), (a_sz, .inl (cI, 4, .inl (szf Ls)))] sz)) (va_Qv (fun (u : (Nat → Int32) × (Nat → Int32) × (Nat → Int32) × (Nat → Int32) × (Nat → Int32) × (Nat → Int32) × (Nat → Int32) × (Nat → Int32) × (Nat → List Int32) × (Nat → Int32)) => (u.1, u.2.1, u.2.2.1, u.2.2.2.1, u.2.2.2.2.1, u.2.2.2.2.2.1, u.2.2.2.2.2.2.1, u.2.2.2.2.2.2.2.1, u.2.2.2.2.2.2.2.2.1) = s_Model_fall st ck he qu lo ow fl op th Ls e_ ∧ RepM u.2.2.2.2.2.2.2.2.2 u.2.2.2.2.2.2.2.2.1) (fun u t9 => xAt D vwCl (va_A [(h0, .inr (7, [.int tg, .ref a_st, .ref a_ck, .ref a_en, .ref a_au, .ref a_he, .ref a_qu, .ref a_lo, .ref a_ow, .ref a_fl, .ref a_ti, .ref a_gd, .ref a_ak, .ref a_sp, .ref a_se, .ref a_sd, .ref a_rw, .ref a_sz, .ref a_op, .ref a_th, .ref a_me, .ref a_pk, .int (nI kc), .int cm, .int su, .ref a_re, .int (nI kq), .ref a_dr])), (a_st, .inl (cI, 2, .inl st)), (a_ck, .inl (cI, 2, .inl ck)), (a_he, .inl (cZ, 2, .inl he)), (a_qu, .inl (cZ, 2, .inl qu)), (a_lo, .inl (cI, 2, .inl lo)), (a_ow, .inl (cI, 2, .inl ow)), (a_fl, .inl (cI, 2, .inl fl)), (a_op, .inl (cZ, 4, .inl op)), (a_th, .inl (cZ, 2, .inl th)), (a_rw, .inl (cI, 256, .inl rw)), (a_sz, .inl (cI, 4, .inl (szf Ls)))] sz) [(h0, .inr (7, [.int tg, .ref a_st, .ref a_ck, .ref a_en, .ref a_au, .ref a_he, .ref a_qu, .ref a_lo, .ref a_ow, .ref a_fl, .ref a_ti, .ref a_gd, .ref a_ak, .ref a_sp, .ref a_se, .ref a_sd, .ref a_rw, .ref a_sz, .ref a_op, .ref a_th, .ref a_me, .ref a_pk, .int (nI kc), .int cm, .int su, .ref a_re, .int (nI kq), .ref a_dr])), (a_st, .inl (cI, 2, .inl u.1)), (a_ck, .inl (cI, 2, .inl u.2.1)), (a_he, .inl (cZ, 2, .inl u.2.2.1)), (a_qu, .inl (cZ, 2, .inl u.2.2.2.1)), (a_lo, .inl (cI, 2, .inl u.2.2.2.2.1)), (a_ow, .inl (cI, 2, .inl u.2.2.2.2.2.1)), (a_fl, .inl (cI, 2, .inl u.2.2.2.2.2.2.1)), (a_op, .inl (cZ, 4, .inl op)), (a_th, .inl (cZ, 2, .inl u.2.2.2.2.2.2.2.1)), (a_rw, .inl (cI, 256, .inl u.2.2.2.2.2.2.2.2.2)), (a_sz, .inl (cI, 4, .inl (szf u.2.2.2.2.2.2.2.2.1)))] t9) (va_A [(h0, .inr (7, [.int tg, .ref a_st, .ref a_ck, .ref a_en, .ref a_au, .ref a_he, .ref a_qu, .ref a_lo, .ref a_ow, .ref a_fl, .ref a_ti, .ref a_gd, .ref a_ak, .ref a_sp, .ref a_se, .ref a_sd, .ref a_rw, .ref a_sz, .ref a_op, .ref a_th, .ref a_me, .ref a_pk, .int (nI kc), .int cm, .int su, .ref a_re, .int (nI kq), .ref a_dr])), (a_st, .inl (cI, 2, .inl st)), (a_ck, .inl (cI, 2, .inl ck)), (a_he, .inl (cZ, 2, .inl he)), (a_qu, .inl (cZ, 2, .inl qu)), (a_lo, .inl (cI, 2, .inl lo)), (a_ow, .inl (cI, 2, .inl ow)), (a_fl, .inl (cI, 2, .inl fl)), (a_op, .inl (cZ, 4, .inl op)), (a_th, .inl (cZ, 2, .inl th)), (a_rw, .inl (cI, 256, .inl rw)), (a_sz, .inl (cI, 4, .inl (szf Ls)))] sz)) 0 0 (va_A [(h0, .inr (7, [.int tg, .ref a_st, .ref a_ck, .ref a_en, .ref a_au, .ref a_he, .ref a_qu, .ref a_lo, .ref a_ow, .ref a_fl, .ref a_ti, .ref a_gd, .ref a_ak, .ref a_sp, .ref a_se, .ref a_sd, .ref a_rw, .ref a_sz, .ref a_op, .ref a_th, .ref a_me, .ref a_pk, .int (nI kc), .int cm, .int su, .ref a_re, .int (nI kq), .ref a_dr])), (a_st, .inl (cI, 2, .inl st)), (a_ck, .inl (cI, 2, .inl ck)), (a_he, .inl (cZ, 2, .inl he)), (a_qu, .inl (cZ, 2, .inl qu)), (a_lo, .inl (cI, 2, .inl lo)), (a_ow, .inl (cI, 2, .inl ow)), (a_fl, .inl (cI, 2, .inl fl)), (a_op, .inl (cZ, 4, .inl op)), (a_th, .inl (cZ, 2, .inl th)), (a_rw, .inl (cI, 256, .inl rw)), (a_sz, .inl (cI, 4, .inl (szf Ls)))] sz) := by
  refine xBody_v (S := (Nat → Int32) × (Nat → Int32) × (Nat → Int32) × (Nat → Int32) × (Nat → Int32) × (Nat → Int32) × (Nat → Int32) × (Nat → Int32) × (Nat → List Int32) × (Nat → Int32)) (cc := b_Model_fall) (maxL := 3) (by decide) rfl (Nat.le_of_ble_eq_true rfl) ?_
  intro p e s m args below meth c A H ls Q hx hb hml hin hts hown hP hD hK hN hS hA hl hret
  replace hl : lv_has ls 3 [(0, .ref h0), (1, .int (nI e_))] := hl
  have hin_Model : ∀ w ∈ u_ws R_Model F_Model 28, w ∈ (w_Model_fall) := (fun w h => xm (lay_Model w h))
  have hq : s_Model_fall st ck he qu lo ow fl op th Ls e_ = (bnd (α := Int32) (if (st e_) = 5 then (1) else (0)) (fun y2 => if y2 = 0 then (s_Model_fall_55 st ck he qu lo ow fl op th e_ y2 Ls) else (if (op (2 * e_ + 1)) = 0 then (s_Model_fall_55 st ck he qu lo ow fl op th e_ y2 Ls) else (bnd (s_Model_add Ls (2 * e_ + 1) 257) (fun Ls15 => s_Model_fall_55 st ck he qu lo ow fl op th e_ y2 Ls15))))) := rfl
  refine lv_aload_n hx hb d_Model_fall_0 rfl (lv_at hl 0 rfl) ?_
  refine va_get (D := D) (ci := 7) (v := .ref a_st) (C := R_Model) (T := F_Model) (N := 28) hx hb hts hin_Model hown hK hP 0 rfl rfl 1 (by decide) (hts _ (xm ww_534)) (fun _ h9 => h9) rfl d_Model_fall_1 ?_
  refine lv_iload_n hx hb d_Model_fall_4 rfl (lv_at hl 1 rfl) ?_
  refine xiald (k := e_) hx hb hK hP 1 0 rfl rfl rfl he_ (by decide) d_Model_fall_5 ?_
  refine lv_iconst (v := 5) hx hb d_Model_fall_6 rfl ?_
  have J1 : ∀ (y2 : Int32) (H : Heap) (locs : List Loc), y2 = (if (st e_) = 5 then (1) else (0)) → xB y2 → va_P D vwCl [(h0, .inr (7, [.int tg, .ref a_st, .ref a_ck, .ref a_en, .ref a_au, .ref a_he, .ref a_qu, .ref a_lo, .ref a_ow, .ref a_fl, .ref a_ti, .ref a_gd, .ref a_ak, .ref a_sp, .ref a_se, .ref a_sd, .ref a_rw, .ref a_sz, .ref a_op, .ref a_th, .ref a_me, .ref a_pk, .int (nI kc), .int cm, .int su, .ref a_re, .int (nI kq), .ref a_dr])), (a_st, .inl (cI, 2, .inl st)), (a_ck, .inl (cI, 2, .inl ck)), (a_he, .inl (cZ, 2, .inl he)), (a_qu, .inl (cZ, 2, .inl qu)), (a_lo, .inl (cI, 2, .inl lo)), (a_ow, .inl (cI, 2, .inl ow)), (a_fl, .inl (cI, 2, .inl fl)), (a_op, .inl (cZ, 4, .inl op)), (a_th, .inl (cZ, 2, .inl th)), (a_rw, .inl (cI, 256, .inl rw)), (a_sz, .inl (cI, 4, .inl (szf Ls)))] H → va_D A [(h0, .inr (7, [.int tg, .ref a_st, .ref a_ck, .ref a_en, .ref a_au, .ref a_he, .ref a_qu, .ref a_lo, .ref a_ow, .ref a_fl, .ref a_ti, .ref a_gd, .ref a_ak, .ref a_sp, .ref a_se, .ref a_sd, .ref a_rw, .ref a_sz, .ref a_op, .ref a_th, .ref a_me, .ref a_pk, .int (nI kc), .int cm, .int su, .ref a_re, .int (nI kq), .ref a_dr])), (a_st, .inl (cI, 2, .inl st)), (a_ck, .inl (cI, 2, .inl ck)), (a_he, .inl (cZ, 2, .inl he)), (a_qu, .inl (cZ, 2, .inl qu)), (a_lo, .inl (cI, 2, .inl lo)), (a_ow, .inl (cI, 2, .inl ow)), (a_fl, .inl (cI, 2, .inl fl)), (a_op, .inl (cZ, 4, .inl op)), (a_th, .inl (cZ, 2, .inl th)), (a_rw, .inl (cI, 256, .inl rw)), (a_sz, .inl (cI, 4, .inl (szf Ls)))] → va_S A s.heap H locs → W p l e rm_Model_fall s m args below meth c H locs 0 0 Q (F0 m 15 ls [.int y2]) := by
    intro y2 H locs hy2 hby2 hP hD hS
    replace hq := hq.trans (bnd_eq hy2)
    try dsimp only at hq
    refine lv_istore_n hx hb d_Model_fall_15 rfl hl (by decide) rfl (fun ls hl => ?_)
    replace hl : lv_has ls 3 [(2, .int y2), (0, .ref h0), (1, .int (nI e_))] := hl
    refine lv_aload_n hx hb d_Model_fall_16 rfl (lv_at hl 1 rfl) ?_
    refine va_get (D := D) (ci := 7) (v := .ref a_fl) (C := R_Model) (T := F_Model) (N := 28) hx hb hts hin_Model hown hK hP 0 rfl rfl 9 (by decide) (hts _ (xm ww_542)) (fun _ h9 => h9) rfl d_Model_fall_17 ?_
    refine lv_iload_n hx hb d_Model_fall_20 rfl (lv_at hl 2 rfl) ?_
    refine lv_dup2_11 hx hb d_Model_fall_21 rfl rfl ?_
    refine xiald (k := e_) hx hb hK hP 7 0 rfl rfl rfl he_ (by decide) d_Model_fall_22 ?_
    refine lv_iconst (v := 1) hx hb d_Model_fall_23 rfl ?_
    refine lv_iadd hx hb d_Model_fall_24 ?_
    refine xiast (k := e_) hx hb hK hP hD hS 7 0 rfl rfl rfl he_ (by decide) d_Model_fall_25 (fun H locs hP hD hS => ?_)
    replace hP : va_P D vwCl [(h0, .inr (7, [.int tg, .ref a_st, .ref a_ck, .ref a_en, .ref a_au, .ref a_he, .ref a_qu, .ref a_lo, .ref a_ow, .ref a_fl, .ref a_ti, .ref a_gd, .ref a_ak, .ref a_sp, .ref a_se, .ref a_sd, .ref a_rw, .ref a_sz, .ref a_op, .ref a_th, .ref a_me, .ref a_pk, .int (nI kc), .int cm, .int su, .ref a_re, .int (nI kq), .ref a_dr])), (a_st, .inl (cI, 2, .inl st)), (a_ck, .inl (cI, 2, .inl ck)), (a_he, .inl (cZ, 2, .inl he)), (a_qu, .inl (cZ, 2, .inl qu)), (a_lo, .inl (cI, 2, .inl lo)), (a_ow, .inl (cI, 2, .inl ow)), (a_fl, .inl (cI, 2, .inl (upd fl e_ ((fl e_) + 1)))), (a_op, .inl (cZ, 4, .inl op)), (a_th, .inl (cZ, 2, .inl th)), (a_rw, .inl (cI, 256, .inl rw)), (a_sz, .inl (cI, 4, .inl (szf Ls)))] H := hP
    replace hD : va_D A [(h0, .inr (7, [.int tg, .ref a_st, .ref a_ck, .ref a_en, .ref a_au, .ref a_he, .ref a_qu, .ref a_lo, .ref a_ow, .ref a_fl, .ref a_ti, .ref a_gd, .ref a_ak, .ref a_sp, .ref a_se, .ref a_sd, .ref a_rw, .ref a_sz, .ref a_op, .ref a_th, .ref a_me, .ref a_pk, .int (nI kc), .int cm, .int su, .ref a_re, .int (nI kq), .ref a_dr])), (a_st, .inl (cI, 2, .inl st)), (a_ck, .inl (cI, 2, .inl ck)), (a_he, .inl (cZ, 2, .inl he)), (a_qu, .inl (cZ, 2, .inl qu)), (a_lo, .inl (cI, 2, .inl lo)), (a_ow, .inl (cI, 2, .inl ow)), (a_fl, .inl (cI, 2, .inl (upd fl e_ ((fl e_) + 1)))), (a_op, .inl (cZ, 4, .inl op)), (a_th, .inl (cZ, 2, .inl th)), (a_rw, .inl (cI, 256, .inl rw)), (a_sz, .inl (cI, 4, .inl (szf Ls)))] := hD
    have Cs_Model_fall_124 : ∀ (th1 : Nat → Int32) (Ls1 : Nat → List Int32) (rw1 : Nat → Int32) (ls : Array Slot) (H : Heap) (locs : List Loc), (RepM rw1 Ls1) → lv_has ls 3 [(2, .int y2), (0, .ref h0), (1, .int (nI e_))] → va_P D vwCl [(h0, .inr (7, [.int tg, .ref a_st, .ref a_ck, .ref a_en, .ref a_au, .ref a_he, .ref a_qu, .ref a_lo, .ref a_ow, .ref a_fl, .ref a_ti, .ref a_gd, .ref a_ak, .ref a_sp, .ref a_se, .ref a_sd, .ref a_rw, .ref a_sz, .ref a_op, .ref a_th, .ref a_me, .ref a_pk, .int (nI kc), .int cm, .int su, .ref a_re, .int (nI kq), .ref a_dr])), (a_st, .inl (cI, 2, .inl st)), (a_ck, .inl (cI, 2, .inl ck)), (a_he, .inl (cZ, 2, .inl he)), (a_qu, .inl (cZ, 2, .inl qu)), (a_lo, .inl (cI, 2, .inl lo)), (a_ow, .inl (cI, 2, .inl ow)), (a_fl, .inl (cI, 2, .inl (upd fl e_ ((fl e_) + 1)))), (a_op, .inl (cZ, 4, .inl op)), (a_th, .inl (cZ, 2, .inl th1)), (a_rw, .inl (cI, 256, .inl rw1)), (a_sz, .inl (cI, 4, .inl (szf Ls1)))] H → va_D A [(h0, .inr (7, [.int tg, .ref a_st, .ref a_ck, .ref a_en, .ref a_au, .ref a_he, .ref a_qu, .ref a_lo, .ref a_ow, .ref a_fl, .ref a_ti, .ref a_gd, .ref a_ak, .ref a_sp, .ref a_se, .ref a_sd, .ref a_rw, .ref a_sz, .ref a_op, .ref a_th, .ref a_me, .ref a_pk, .int (nI kc), .int cm, .int su, .ref a_re, .int (nI kq), .ref a_dr])), (a_st, .inl (cI, 2, .inl st)), (a_ck, .inl (cI, 2, .inl ck)), (a_he, .inl (cZ, 2, .inl he)), (a_qu, .inl (cZ, 2, .inl qu)), (a_lo, .inl (cI, 2, .inl lo)), (a_ow, .inl (cI, 2, .inl ow)), (a_fl, .inl (cI, 2, .inl (upd fl e_ ((fl e_) + 1)))), (a_op, .inl (cZ, 4, .inl op)), (a_th, .inl (cZ, 2, .inl th1)), (a_rw, .inl (cI, 256, .inl rw1)), (a_sz, .inl (cI, 4, .inl (szf Ls1)))] → va_S A s.heap H locs → s_Model_fall st ck he qu lo ow fl op th Ls e_ = s_Model_fall_124 st ck he qu lo ow fl e_ th1 Ls1 → W p l e rm_Model_fall s m args below meth c H locs 0 0 Q (F0 m 124 ls []) := by
      intro th1 Ls1 rw1 ls H locs hM1 hl hP hD hS hq
      replace hq : s_Model_fall st ck he qu lo ow fl op th Ls e_ = ((upd st e_ 0, upd ck e_ 0, upd he e_ 0, upd qu e_ 0, upd lo e_ 0, upd ow e_ 0, upd fl e_ ((fl e_) + 1), th1, Ls1)) := hq
      refine lv_aload_n hx hb d_Model_fall_124 rfl (lv_at hl 1 rfl) ?_
      refine va_get (D := D) (ci := 7) (v := .ref a_st) (C := R_Model) (T := F_Model) (N := 28) hx hb hts hin_Model hown hK hP 0 rfl rfl 1 (by decide) (hts _ (xm ww_534)) (fun _ h9 => h9) rfl d_Model_fall_125 ?_
      refine lv_iload_n hx hb d_Model_fall_128 rfl (lv_at hl 2 rfl) ?_
      refine lv_iconst (v := 0) hx hb d_Model_fall_129 rfl ?_
      refine xiast (k := e_) hx hb hK hP hD hS 1 0 rfl rfl rfl he_ (by decide) d_Model_fall_130 (fun H locs hP hD hS => ?_)
      replace hP : va_P D vwCl [(h0, .inr (7, [.int tg, .ref a_st, .ref a_ck, .ref a_en, .ref a_au, .ref a_he, .ref a_qu, .ref a_lo, .ref a_ow, .ref a_fl, .ref a_ti, .ref a_gd, .ref a_ak, .ref a_sp, .ref a_se, .ref a_sd, .ref a_rw, .ref a_sz, .ref a_op, .ref a_th, .ref a_me, .ref a_pk, .int (nI kc), .int cm, .int su, .ref a_re, .int (nI kq), .ref a_dr])), (a_st, .inl (cI, 2, .inl (upd st e_ 0))), (a_ck, .inl (cI, 2, .inl ck)), (a_he, .inl (cZ, 2, .inl he)), (a_qu, .inl (cZ, 2, .inl qu)), (a_lo, .inl (cI, 2, .inl lo)), (a_ow, .inl (cI, 2, .inl ow)), (a_fl, .inl (cI, 2, .inl (upd fl e_ ((fl e_) + 1)))), (a_op, .inl (cZ, 4, .inl op)), (a_th, .inl (cZ, 2, .inl th1)), (a_rw, .inl (cI, 256, .inl rw1)), (a_sz, .inl (cI, 4, .inl (szf Ls1)))] H := hP
      replace hD : va_D A [(h0, .inr (7, [.int tg, .ref a_st, .ref a_ck, .ref a_en, .ref a_au, .ref a_he, .ref a_qu, .ref a_lo, .ref a_ow, .ref a_fl, .ref a_ti, .ref a_gd, .ref a_ak, .ref a_sp, .ref a_se, .ref a_sd, .ref a_rw, .ref a_sz, .ref a_op, .ref a_th, .ref a_me, .ref a_pk, .int (nI kc), .int cm, .int su, .ref a_re, .int (nI kq), .ref a_dr])), (a_st, .inl (cI, 2, .inl (upd st e_ 0))), (a_ck, .inl (cI, 2, .inl ck)), (a_he, .inl (cZ, 2, .inl he)), (a_qu, .inl (cZ, 2, .inl qu)), (a_lo, .inl (cI, 2, .inl lo)), (a_ow, .inl (cI, 2, .inl ow)), (a_fl, .inl (cI, 2, .inl (upd fl e_ ((fl e_) + 1)))), (a_op, .inl (cZ, 4, .inl op)), (a_th, .inl (cZ, 2, .inl th1)), (a_rw, .inl (cI, 256, .inl rw1)), (a_sz, .inl (cI, 4, .inl (szf Ls1)))] := hD
      refine lv_aload_n hx hb d_Model_fall_131 rfl (lv_at hl 1 rfl) ?_
      refine va_get (D := D) (ci := 7) (v := .ref a_ck) (C := R_Model) (T := F_Model) (N := 28) hx hb hts hin_Model hown hK hP 0 rfl rfl 2 (by decide) (hts _ (xm ww_535)) (fun _ h9 => h9) rfl d_Model_fall_132 ?_
      refine lv_iload_n hx hb d_Model_fall_135 rfl (lv_at hl 2 rfl) ?_
      refine lv_iconst (v := 0) hx hb d_Model_fall_136 rfl ?_
      refine xiast (k := e_) hx hb hK hP hD hS 2 0 rfl rfl rfl he_ (by decide) d_Model_fall_137 (fun H locs hP hD hS => ?_)
      replace hP : va_P D vwCl [(h0, .inr (7, [.int tg, .ref a_st, .ref a_ck, .ref a_en, .ref a_au, .ref a_he, .ref a_qu, .ref a_lo, .ref a_ow, .ref a_fl, .ref a_ti, .ref a_gd, .ref a_ak, .ref a_sp, .ref a_se, .ref a_sd, .ref a_rw, .ref a_sz, .ref a_op, .ref a_th, .ref a_me, .ref a_pk, .int (nI kc), .int cm, .int su, .ref a_re, .int (nI kq), .ref a_dr])), (a_st, .inl (cI, 2, .inl (upd st e_ 0))), (a_ck, .inl (cI, 2, .inl (upd ck e_ 0))), (a_he, .inl (cZ, 2, .inl he)), (a_qu, .inl (cZ, 2, .inl qu)), (a_lo, .inl (cI, 2, .inl lo)), (a_ow, .inl (cI, 2, .inl ow)), (a_fl, .inl (cI, 2, .inl (upd fl e_ ((fl e_) + 1)))), (a_op, .inl (cZ, 4, .inl op)), (a_th, .inl (cZ, 2, .inl th1)), (a_rw, .inl (cI, 256, .inl rw1)), (a_sz, .inl (cI, 4, .inl (szf Ls1)))] H := hP
      replace hD : va_D A [(h0, .inr (7, [.int tg, .ref a_st, .ref a_ck, .ref a_en, .ref a_au, .ref a_he, .ref a_qu, .ref a_lo, .ref a_ow, .ref a_fl, .ref a_ti, .ref a_gd, .ref a_ak, .ref a_sp, .ref a_se, .ref a_sd, .ref a_rw, .ref a_sz, .ref a_op, .ref a_th, .ref a_me, .ref a_pk, .int (nI kc), .int cm, .int su, .ref a_re, .int (nI kq), .ref a_dr])), (a_st, .inl (cI, 2, .inl (upd st e_ 0))), (a_ck, .inl (cI, 2, .inl (upd ck e_ 0))), (a_he, .inl (cZ, 2, .inl he)), (a_qu, .inl (cZ, 2, .inl qu)), (a_lo, .inl (cI, 2, .inl lo)), (a_ow, .inl (cI, 2, .inl ow)), (a_fl, .inl (cI, 2, .inl (upd fl e_ ((fl e_) + 1)))), (a_op, .inl (cZ, 4, .inl op)), (a_th, .inl (cZ, 2, .inl th1)), (a_rw, .inl (cI, 256, .inl rw1)), (a_sz, .inl (cI, 4, .inl (szf Ls1)))] := hD
      refine lv_aload_n hx hb d_Model_fall_138 rfl (lv_at hl 1 rfl) ?_
      refine va_get (D := D) (ci := 7) (v := .ref a_lo) (C := R_Model) (T := F_Model) (N := 28) hx hb hts hin_Model hown hK hP 0 rfl rfl 7 (by decide) (hts _ (xm ww_540)) (fun _ h9 => h9) rfl d_Model_fall_139 ?_
      refine lv_iload_n hx hb d_Model_fall_142 rfl (lv_at hl 2 rfl) ?_
      refine lv_iconst (v := 0) hx hb d_Model_fall_143 rfl ?_
      refine xiast (k := e_) hx hb hK hP hD hS 5 0 rfl rfl rfl he_ (by decide) d_Model_fall_144 (fun H locs hP hD hS => ?_)
      replace hP : va_P D vwCl [(h0, .inr (7, [.int tg, .ref a_st, .ref a_ck, .ref a_en, .ref a_au, .ref a_he, .ref a_qu, .ref a_lo, .ref a_ow, .ref a_fl, .ref a_ti, .ref a_gd, .ref a_ak, .ref a_sp, .ref a_se, .ref a_sd, .ref a_rw, .ref a_sz, .ref a_op, .ref a_th, .ref a_me, .ref a_pk, .int (nI kc), .int cm, .int su, .ref a_re, .int (nI kq), .ref a_dr])), (a_st, .inl (cI, 2, .inl (upd st e_ 0))), (a_ck, .inl (cI, 2, .inl (upd ck e_ 0))), (a_he, .inl (cZ, 2, .inl he)), (a_qu, .inl (cZ, 2, .inl qu)), (a_lo, .inl (cI, 2, .inl (upd lo e_ 0))), (a_ow, .inl (cI, 2, .inl ow)), (a_fl, .inl (cI, 2, .inl (upd fl e_ ((fl e_) + 1)))), (a_op, .inl (cZ, 4, .inl op)), (a_th, .inl (cZ, 2, .inl th1)), (a_rw, .inl (cI, 256, .inl rw1)), (a_sz, .inl (cI, 4, .inl (szf Ls1)))] H := hP
      replace hD : va_D A [(h0, .inr (7, [.int tg, .ref a_st, .ref a_ck, .ref a_en, .ref a_au, .ref a_he, .ref a_qu, .ref a_lo, .ref a_ow, .ref a_fl, .ref a_ti, .ref a_gd, .ref a_ak, .ref a_sp, .ref a_se, .ref a_sd, .ref a_rw, .ref a_sz, .ref a_op, .ref a_th, .ref a_me, .ref a_pk, .int (nI kc), .int cm, .int su, .ref a_re, .int (nI kq), .ref a_dr])), (a_st, .inl (cI, 2, .inl (upd st e_ 0))), (a_ck, .inl (cI, 2, .inl (upd ck e_ 0))), (a_he, .inl (cZ, 2, .inl he)), (a_qu, .inl (cZ, 2, .inl qu)), (a_lo, .inl (cI, 2, .inl (upd lo e_ 0))), (a_ow, .inl (cI, 2, .inl ow)), (a_fl, .inl (cI, 2, .inl (upd fl e_ ((fl e_) + 1)))), (a_op, .inl (cZ, 4, .inl op)), (a_th, .inl (cZ, 2, .inl th1)), (a_rw, .inl (cI, 256, .inl rw1)), (a_sz, .inl (cI, 4, .inl (szf Ls1)))] := hD
      refine lv_aload_n hx hb d_Model_fall_145 rfl (lv_at hl 1 rfl) ?_
      refine va_get (D := D) (ci := 7) (v := .ref a_ow) (C := R_Model) (T := F_Model) (N := 28) hx hb hts hin_Model hown hK hP 0 rfl rfl 8 (by decide) (hts _ (xm ww_541)) (fun _ h9 => h9) rfl d_Model_fall_146 ?_
      refine lv_iload_n hx hb d_Model_fall_149 rfl (lv_at hl 2 rfl) ?_
      refine lv_iconst (v := 0) hx hb d_Model_fall_150 rfl ?_
      refine xiast (k := e_) hx hb hK hP hD hS 6 0 rfl rfl rfl he_ (by decide) d_Model_fall_151 (fun H locs hP hD hS => ?_)
      replace hP : va_P D vwCl [(h0, .inr (7, [.int tg, .ref a_st, .ref a_ck, .ref a_en, .ref a_au, .ref a_he, .ref a_qu, .ref a_lo, .ref a_ow, .ref a_fl, .ref a_ti, .ref a_gd, .ref a_ak, .ref a_sp, .ref a_se, .ref a_sd, .ref a_rw, .ref a_sz, .ref a_op, .ref a_th, .ref a_me, .ref a_pk, .int (nI kc), .int cm, .int su, .ref a_re, .int (nI kq), .ref a_dr])), (a_st, .inl (cI, 2, .inl (upd st e_ 0))), (a_ck, .inl (cI, 2, .inl (upd ck e_ 0))), (a_he, .inl (cZ, 2, .inl he)), (a_qu, .inl (cZ, 2, .inl qu)), (a_lo, .inl (cI, 2, .inl (upd lo e_ 0))), (a_ow, .inl (cI, 2, .inl (upd ow e_ 0))), (a_fl, .inl (cI, 2, .inl (upd fl e_ ((fl e_) + 1)))), (a_op, .inl (cZ, 4, .inl op)), (a_th, .inl (cZ, 2, .inl th1)), (a_rw, .inl (cI, 256, .inl rw1)), (a_sz, .inl (cI, 4, .inl (szf Ls1)))] H := hP
      replace hD : va_D A [(h0, .inr (7, [.int tg, .ref a_st, .ref a_ck, .ref a_en, .ref a_au, .ref a_he, .ref a_qu, .ref a_lo, .ref a_ow, .ref a_fl, .ref a_ti, .ref a_gd, .ref a_ak, .ref a_sp, .ref a_se, .ref a_sd, .ref a_rw, .ref a_sz, .ref a_op, .ref a_th, .ref a_me, .ref a_pk, .int (nI kc), .int cm, .int su, .ref a_re, .int (nI kq), .ref a_dr])), (a_st, .inl (cI, 2, .inl (upd st e_ 0))), (a_ck, .inl (cI, 2, .inl (upd ck e_ 0))), (a_he, .inl (cZ, 2, .inl he)), (a_qu, .inl (cZ, 2, .inl qu)), (a_lo, .inl (cI, 2, .inl (upd lo e_ 0))), (a_ow, .inl (cI, 2, .inl (upd ow e_ 0))), (a_fl, .inl (cI, 2, .inl (upd fl e_ ((fl e_) + 1)))), (a_op, .inl (cZ, 4, .inl op)), (a_th, .inl (cZ, 2, .inl th1)), (a_rw, .inl (cI, 256, .inl rw1)), (a_sz, .inl (cI, 4, .inl (szf Ls1)))] := hD
      refine lv_aload_n hx hb d_Model_fall_152 rfl (lv_at hl 1 rfl) ?_
      refine va_get (D := D) (ci := 7) (v := .ref a_he) (C := R_Model) (T := F_Model) (N := 28) hx hb hts hin_Model hown hK hP 0 rfl rfl 5 (by decide) (hts _ (xm ww_538)) (fun _ h9 => h9) rfl d_Model_fall_153 ?_
      refine lv_iload_n hx hb d_Model_fall_156 rfl (lv_at hl 2 rfl) ?_
      refine lv_iconst (v := 0) hx hb d_Model_fall_157 rfl ?_
      refine xzast (k := e_) hx hb hK hP hD hS 3 1 rfl rfl rfl he_ (by decide) (Or.inl rfl) d_Model_fall_158 (fun H locs hP hD hS => ?_)
      replace hP : va_P D vwCl [(h0, .inr (7, [.int tg, .ref a_st, .ref a_ck, .ref a_en, .ref a_au, .ref a_he, .ref a_qu, .ref a_lo, .ref a_ow, .ref a_fl, .ref a_ti, .ref a_gd, .ref a_ak, .ref a_sp, .ref a_se, .ref a_sd, .ref a_rw, .ref a_sz, .ref a_op, .ref a_th, .ref a_me, .ref a_pk, .int (nI kc), .int cm, .int su, .ref a_re, .int (nI kq), .ref a_dr])), (a_st, .inl (cI, 2, .inl (upd st e_ 0))), (a_ck, .inl (cI, 2, .inl (upd ck e_ 0))), (a_he, .inl (cZ, 2, .inl (upd he e_ 0))), (a_qu, .inl (cZ, 2, .inl qu)), (a_lo, .inl (cI, 2, .inl (upd lo e_ 0))), (a_ow, .inl (cI, 2, .inl (upd ow e_ 0))), (a_fl, .inl (cI, 2, .inl (upd fl e_ ((fl e_) + 1)))), (a_op, .inl (cZ, 4, .inl op)), (a_th, .inl (cZ, 2, .inl th1)), (a_rw, .inl (cI, 256, .inl rw1)), (a_sz, .inl (cI, 4, .inl (szf Ls1)))] H := hP
      replace hD : va_D A [(h0, .inr (7, [.int tg, .ref a_st, .ref a_ck, .ref a_en, .ref a_au, .ref a_he, .ref a_qu, .ref a_lo, .ref a_ow, .ref a_fl, .ref a_ti, .ref a_gd, .ref a_ak, .ref a_sp, .ref a_se, .ref a_sd, .ref a_rw, .ref a_sz, .ref a_op, .ref a_th, .ref a_me, .ref a_pk, .int (nI kc), .int cm, .int su, .ref a_re, .int (nI kq), .ref a_dr])), (a_st, .inl (cI, 2, .inl (upd st e_ 0))), (a_ck, .inl (cI, 2, .inl (upd ck e_ 0))), (a_he, .inl (cZ, 2, .inl (upd he e_ 0))), (a_qu, .inl (cZ, 2, .inl qu)), (a_lo, .inl (cI, 2, .inl (upd lo e_ 0))), (a_ow, .inl (cI, 2, .inl (upd ow e_ 0))), (a_fl, .inl (cI, 2, .inl (upd fl e_ ((fl e_) + 1)))), (a_op, .inl (cZ, 4, .inl op)), (a_th, .inl (cZ, 2, .inl th1)), (a_rw, .inl (cI, 256, .inl rw1)), (a_sz, .inl (cI, 4, .inl (szf Ls1)))] := hD
      refine lv_aload_n hx hb d_Model_fall_159 rfl (lv_at hl 1 rfl) ?_
      refine va_get (D := D) (ci := 7) (v := .ref a_qu) (C := R_Model) (T := F_Model) (N := 28) hx hb hts hin_Model hown hK hP 0 rfl rfl 6 (by decide) (hts _ (xm ww_539)) (fun _ h9 => h9) rfl d_Model_fall_160 ?_
      refine lv_iload_n hx hb d_Model_fall_163 rfl (lv_at hl 2 rfl) ?_
      refine lv_iconst (v := 0) hx hb d_Model_fall_164 rfl ?_
      refine xzast (k := e_) hx hb hK hP hD hS 4 1 rfl rfl rfl he_ (by decide) (Or.inl rfl) d_Model_fall_165 (fun H locs hP hD hS => ?_)
      replace hP : va_P D vwCl [(h0, .inr (7, [.int tg, .ref a_st, .ref a_ck, .ref a_en, .ref a_au, .ref a_he, .ref a_qu, .ref a_lo, .ref a_ow, .ref a_fl, .ref a_ti, .ref a_gd, .ref a_ak, .ref a_sp, .ref a_se, .ref a_sd, .ref a_rw, .ref a_sz, .ref a_op, .ref a_th, .ref a_me, .ref a_pk, .int (nI kc), .int cm, .int su, .ref a_re, .int (nI kq), .ref a_dr])), (a_st, .inl (cI, 2, .inl (upd st e_ 0))), (a_ck, .inl (cI, 2, .inl (upd ck e_ 0))), (a_he, .inl (cZ, 2, .inl (upd he e_ 0))), (a_qu, .inl (cZ, 2, .inl (upd qu e_ 0))), (a_lo, .inl (cI, 2, .inl (upd lo e_ 0))), (a_ow, .inl (cI, 2, .inl (upd ow e_ 0))), (a_fl, .inl (cI, 2, .inl (upd fl e_ ((fl e_) + 1)))), (a_op, .inl (cZ, 4, .inl op)), (a_th, .inl (cZ, 2, .inl th1)), (a_rw, .inl (cI, 256, .inl rw1)), (a_sz, .inl (cI, 4, .inl (szf Ls1)))] H := hP
      replace hD : va_D A [(h0, .inr (7, [.int tg, .ref a_st, .ref a_ck, .ref a_en, .ref a_au, .ref a_he, .ref a_qu, .ref a_lo, .ref a_ow, .ref a_fl, .ref a_ti, .ref a_gd, .ref a_ak, .ref a_sp, .ref a_se, .ref a_sd, .ref a_rw, .ref a_sz, .ref a_op, .ref a_th, .ref a_me, .ref a_pk, .int (nI kc), .int cm, .int su, .ref a_re, .int (nI kq), .ref a_dr])), (a_st, .inl (cI, 2, .inl (upd st e_ 0))), (a_ck, .inl (cI, 2, .inl (upd ck e_ 0))), (a_he, .inl (cZ, 2, .inl (upd he e_ 0))), (a_qu, .inl (cZ, 2, .inl (upd qu e_ 0))), (a_lo, .inl (cI, 2, .inl (upd lo e_ 0))), (a_ow, .inl (cI, 2, .inl (upd ow e_ 0))), (a_fl, .inl (cI, 2, .inl (upd fl e_ ((fl e_) + 1)))), (a_op, .inl (cZ, 4, .inl op)), (a_th, .inl (cZ, 2, .inl th1)), (a_rw, .inl (cI, 256, .inl rw1)), (a_sz, .inl (cI, 4, .inl (szf Ls1)))] := hD
      exact hret (upd st e_ 0, upd ck e_ 0, upd he e_ 0, upd qu e_ 0, upd lo e_ 0, upd ow e_ 0, upd fl e_ ((fl e_) + 1), th1, Ls1, rw1) ⟨hq.symm, hM1⟩ _ _ _ _ hP hD hS d_Model_fall_166
    have Cs_Model_fall_55 : ∀ (Ls1 : Nat → List Int32) (rw1 : Nat → Int32) (ls : Array Slot) (H : Heap) (locs : List Loc), (RepM rw1 Ls1) → lv_has ls 3 [(2, .int y2), (0, .ref h0), (1, .int (nI e_))] → va_P D vwCl [(h0, .inr (7, [.int tg, .ref a_st, .ref a_ck, .ref a_en, .ref a_au, .ref a_he, .ref a_qu, .ref a_lo, .ref a_ow, .ref a_fl, .ref a_ti, .ref a_gd, .ref a_ak, .ref a_sp, .ref a_se, .ref a_sd, .ref a_rw, .ref a_sz, .ref a_op, .ref a_th, .ref a_me, .ref a_pk, .int (nI kc), .int cm, .int su, .ref a_re, .int (nI kq), .ref a_dr])), (a_st, .inl (cI, 2, .inl st)), (a_ck, .inl (cI, 2, .inl ck)), (a_he, .inl (cZ, 2, .inl he)), (a_qu, .inl (cZ, 2, .inl qu)), (a_lo, .inl (cI, 2, .inl lo)), (a_ow, .inl (cI, 2, .inl ow)), (a_fl, .inl (cI, 2, .inl (upd fl e_ ((fl e_) + 1)))), (a_op, .inl (cZ, 4, .inl op)), (a_th, .inl (cZ, 2, .inl th)), (a_rw, .inl (cI, 256, .inl rw1)), (a_sz, .inl (cI, 4, .inl (szf Ls1)))] H → va_D A [(h0, .inr (7, [.int tg, .ref a_st, .ref a_ck, .ref a_en, .ref a_au, .ref a_he, .ref a_qu, .ref a_lo, .ref a_ow, .ref a_fl, .ref a_ti, .ref a_gd, .ref a_ak, .ref a_sp, .ref a_se, .ref a_sd, .ref a_rw, .ref a_sz, .ref a_op, .ref a_th, .ref a_me, .ref a_pk, .int (nI kc), .int cm, .int su, .ref a_re, .int (nI kq), .ref a_dr])), (a_st, .inl (cI, 2, .inl st)), (a_ck, .inl (cI, 2, .inl ck)), (a_he, .inl (cZ, 2, .inl he)), (a_qu, .inl (cZ, 2, .inl qu)), (a_lo, .inl (cI, 2, .inl lo)), (a_ow, .inl (cI, 2, .inl ow)), (a_fl, .inl (cI, 2, .inl (upd fl e_ ((fl e_) + 1)))), (a_op, .inl (cZ, 4, .inl op)), (a_th, .inl (cZ, 2, .inl th)), (a_rw, .inl (cI, 256, .inl rw1)), (a_sz, .inl (cI, 4, .inl (szf Ls1)))] → va_S A s.heap H locs → s_Model_fall st ck he qu lo ow fl op th Ls e_ = s_Model_fall_55 st ck he qu lo ow fl op th e_ y2 Ls1 → W p l e rm_Model_fall s m args below meth c H locs 0 0 Q (F0 m 55 ls []) := by
      intro Ls1 rw1 ls H locs hM1 hl hP hD hS hq
      replace hq : s_Model_fall st ck he qu lo ow fl op th Ls e_ = (if y2 = 0 then (s_Model_fall_124 st ck he qu lo ow fl e_ th Ls1) else (if (op (2 * e_)) = 0 then (s_Model_fall_124 st ck he qu lo ow fl e_ th Ls1) else (lp_fall st ck he qu lo ow fl e_ ((Ls1 (2 * e_)).length) (upd th e_ 1) Ls1))) := hq
      refine lv_iload_n hx hb d_Model_fall_55 rfl (lv_at hl 0 rfl) ?_
      refine lv_if_eq (tgt := 124) hx hb d_Model_fall_56 rfl (fun h3 => ?_) (fun h3 => ?_)
      · replace hq := hq.trans (if_pos h3)
        exact Cs_Model_fall_124 th Ls1 rw1 _ _ _ hM1 (lv_sub hl [0, 1, 2] rfl) hP hD hS hq
      replace hq := hq.trans (if_neg h3)
      refine lv_aload_n hx hb d_Model_fall_59 rfl (lv_at hl 1 rfl) ?_
      refine va_get (D := D) (ci := 7) (v := .ref a_op) (C := R_Model) (T := F_Model) (N := 28) hx hb hts hin_Model hown hK hP 0 rfl rfl 18 (by decide) (hts _ (xm ww_551)) (fun _ h9 => h9) rfl d_Model_fall_60 ?_
      refine lv_iconst (v := 2) hx hb d_Model_fall_63 rfl ?_
      refine lv_iload_n hx hb d_Model_fall_64 rfl (lv_at hl 2 rfl) ?_
      refine lv_imul hx hb d_Model_fall_65 ?_
      refine xtop (y := nI (2 * e_)) (pk_mul 2 e_) ?_
      refine xzald (k := (2 * e_)) hx hb hK hP 8 1 rfl rfl rfl (by omega) (by decide) d_Model_fall_66 ?_
      refine lv_if_eq (tgt := 124) hx hb d_Model_fall_67 rfl (fun h4 => ?_) (fun h4 => ?_)
      · replace hq := hq.trans (if_pos h4)
        exact Cs_Model_fall_124 th Ls1 rw1 _ _ _ hM1 (lv_sub hl [0, 1, 2] rfl) hP hD hS hq
      replace hq := hq.trans (if_neg h4)
      refine lv_aload_n hx hb d_Model_fall_70 rfl (lv_at hl 1 rfl) ?_
      refine va_get (D := D) (ci := 7) (v := .ref a_th) (C := R_Model) (T := F_Model) (N := 28) hx hb hts hin_Model hown hK hP 0 rfl rfl 19 (by decide) (hts _ (xm ww_552)) (fun _ h9 => h9) rfl d_Model_fall_71 ?_
      refine lv_iload_n hx hb d_Model_fall_74 rfl (lv_at hl 2 rfl) ?_
      refine lv_iconst (v := 1) hx hb d_Model_fall_75 rfl ?_
      refine xzast (k := e_) hx hb hK hP hD hS 9 1 rfl rfl rfl he_ (by decide) (Or.inr rfl) d_Model_fall_76 (fun H locs hP hD hS => ?_)
      replace hP : va_P D vwCl [(h0, .inr (7, [.int tg, .ref a_st, .ref a_ck, .ref a_en, .ref a_au, .ref a_he, .ref a_qu, .ref a_lo, .ref a_ow, .ref a_fl, .ref a_ti, .ref a_gd, .ref a_ak, .ref a_sp, .ref a_se, .ref a_sd, .ref a_rw, .ref a_sz, .ref a_op, .ref a_th, .ref a_me, .ref a_pk, .int (nI kc), .int cm, .int su, .ref a_re, .int (nI kq), .ref a_dr])), (a_st, .inl (cI, 2, .inl st)), (a_ck, .inl (cI, 2, .inl ck)), (a_he, .inl (cZ, 2, .inl he)), (a_qu, .inl (cZ, 2, .inl qu)), (a_lo, .inl (cI, 2, .inl lo)), (a_ow, .inl (cI, 2, .inl ow)), (a_fl, .inl (cI, 2, .inl (upd fl e_ ((fl e_) + 1)))), (a_op, .inl (cZ, 4, .inl op)), (a_th, .inl (cZ, 2, .inl (upd th e_ 1))), (a_rw, .inl (cI, 256, .inl rw1)), (a_sz, .inl (cI, 4, .inl (szf Ls1)))] H := hP
      replace hD : va_D A [(h0, .inr (7, [.int tg, .ref a_st, .ref a_ck, .ref a_en, .ref a_au, .ref a_he, .ref a_qu, .ref a_lo, .ref a_ow, .ref a_fl, .ref a_ti, .ref a_gd, .ref a_ak, .ref a_sp, .ref a_se, .ref a_sd, .ref a_rw, .ref a_sz, .ref a_op, .ref a_th, .ref a_me, .ref a_pk, .int (nI kc), .int cm, .int su, .ref a_re, .int (nI kq), .ref a_dr])), (a_st, .inl (cI, 2, .inl st)), (a_ck, .inl (cI, 2, .inl ck)), (a_he, .inl (cZ, 2, .inl he)), (a_qu, .inl (cZ, 2, .inl qu)), (a_lo, .inl (cI, 2, .inl lo)), (a_ow, .inl (cI, 2, .inl ow)), (a_fl, .inl (cI, 2, .inl (upd fl e_ ((fl e_) + 1)))), (a_op, .inl (cZ, 4, .inl op)), (a_th, .inl (cZ, 2, .inl (upd th e_ 1))), (a_rw, .inl (cI, 256, .inl rw1)), (a_sz, .inl (cI, 4, .inl (szf Ls1)))] := hD
      have LPlp_fall : ∀ (nlp_fall : Nat) (th2 : Nat → Int32) (Ls2 : Nat → List Int32) (rw2 : Nat → Int32) (ls : Array Slot) (H : Heap) (locs : List Loc), (RepM rw2 Ls2) → (Ls2 (2 * e_)).length ≤ nlp_fall → lv_has ls 3 [(2, .int y2), (0, .ref h0), (1, .int (nI e_))] → va_P D vwCl [(h0, .inr (7, [.int tg, .ref a_st, .ref a_ck, .ref a_en, .ref a_au, .ref a_he, .ref a_qu, .ref a_lo, .ref a_ow, .ref a_fl, .ref a_ti, .ref a_gd, .ref a_ak, .ref a_sp, .ref a_se, .ref a_sd, .ref a_rw, .ref a_sz, .ref a_op, .ref a_th, .ref a_me, .ref a_pk, .int (nI kc), .int cm, .int su, .ref a_re, .int (nI kq), .ref a_dr])), (a_st, .inl (cI, 2, .inl st)), (a_ck, .inl (cI, 2, .inl ck)), (a_he, .inl (cZ, 2, .inl he)), (a_qu, .inl (cZ, 2, .inl qu)), (a_lo, .inl (cI, 2, .inl lo)), (a_ow, .inl (cI, 2, .inl ow)), (a_fl, .inl (cI, 2, .inl (upd fl e_ ((fl e_) + 1)))), (a_op, .inl (cZ, 4, .inl op)), (a_th, .inl (cZ, 2, .inl th2)), (a_rw, .inl (cI, 256, .inl rw2)), (a_sz, .inl (cI, 4, .inl (szf Ls2)))] H → va_D A [(h0, .inr (7, [.int tg, .ref a_st, .ref a_ck, .ref a_en, .ref a_au, .ref a_he, .ref a_qu, .ref a_lo, .ref a_ow, .ref a_fl, .ref a_ti, .ref a_gd, .ref a_ak, .ref a_sp, .ref a_se, .ref a_sd, .ref a_rw, .ref a_sz, .ref a_op, .ref a_th, .ref a_me, .ref a_pk, .int (nI kc), .int cm, .int su, .ref a_re, .int (nI kq), .ref a_dr])), (a_st, .inl (cI, 2, .inl st)), (a_ck, .inl (cI, 2, .inl ck)), (a_he, .inl (cZ, 2, .inl he)), (a_qu, .inl (cZ, 2, .inl qu)), (a_lo, .inl (cI, 2, .inl lo)), (a_ow, .inl (cI, 2, .inl ow)), (a_fl, .inl (cI, 2, .inl (upd fl e_ ((fl e_) + 1)))), (a_op, .inl (cZ, 4, .inl op)), (a_th, .inl (cZ, 2, .inl th2)), (a_rw, .inl (cI, 256, .inl rw2)), (a_sz, .inl (cI, 4, .inl (szf Ls2)))] → va_S A s.heap H locs → s_Model_fall st ck he qu lo ow fl op th Ls e_ = lp_fall st ck he qu lo ow fl e_ nlp_fall th2 Ls2 → W p l e rm_Model_fall s m args below meth c H locs 0 0 Q (F0 m 77 ls []) := by
        intro nlp_fall
        induction nlp_fall with
        | zero =>
          intro th2 Ls2 rw2 ls H locs hM2 hmlp_fall hl hP hD hS hq
          replace hq : s_Model_fall st ck he qu lo ow fl op th Ls e_ = (if (th2 e_) = 0 then (s_Model_fall_124 st ck he qu lo ow fl e_ th2 Ls2) else (s_Model_fall_124 st ck he qu lo ow fl e_ th2 Ls2)) := hq
          refine lv_aload_n hx hb d_Model_fall_77 rfl (lv_at hl 1 rfl) ?_
          refine va_get (D := D) (ci := 7) (v := .ref a_th) (C := R_Model) (T := F_Model) (N := 28) hx hb hts hin_Model hown hK hP 0 rfl rfl 19 (by decide) (hts _ (xm ww_552)) (fun _ h9 => h9) rfl d_Model_fall_78 ?_
          refine lv_iload_n hx hb d_Model_fall_81 rfl (lv_at hl 2 rfl) ?_
          refine xzald (k := e_) hx hb hK hP 9 1 rfl rfl rfl he_ (by decide) d_Model_fall_82 ?_
          refine lv_if_eq (tgt := 124) hx hb d_Model_fall_83 rfl (fun h5 => ?_) (fun h5 => ?_)
          · replace hq := hq.trans (if_pos h5)
            exact Cs_Model_fall_124 th2 Ls2 rw2 _ _ _ hM2 (lv_sub hl [0, 1, 2] rfl) hP hD hS hq
          replace hq := hq.trans (if_neg h5)
          refine lv_aload_n hx hb d_Model_fall_86 rfl (lv_at hl 1 rfl) ?_
          refine va_get (D := D) (ci := 7) (v := .ref a_sz) (C := R_Model) (T := F_Model) (N := 28) hx hb hts hin_Model hown hK hP 0 rfl rfl 17 (by decide) (hts _ (xm ww_550)) (fun _ h9 => h9) rfl d_Model_fall_87 ?_
          refine lv_iconst (v := 2) hx hb d_Model_fall_90 rfl ?_
          refine lv_iload_n hx hb d_Model_fall_91 rfl (lv_at hl 2 rfl) ?_
          refine lv_imul hx hb d_Model_fall_92 ?_
          refine xtop (y := nI (2 * e_)) (pk_mul 2 e_) ?_
          refine xiald (k := (2 * e_)) hx hb hK hP 11 0 rfl rfl rfl (by omega) (by decide) d_Model_fall_93 ?_
          refine xtop (y := nI ((Ls2 (2 * e_)).length)) rfl ?_
          refine lv_if_le (tgt := 124) hx hb d_Model_fall_94 rfl (fun h6 => ?_) (fun h6 => ?_)
          rotate_left
          · exact absurd (by rw [Nat.le_zero.mp hmlp_fall]; decide) h6
          exact Cs_Model_fall_124 th2 Ls2 rw2 _ _ _ hM2 (lv_sub hl [0, 1, 2] rfl) hP hD hS hq
        | succ nlp_fall ihlp_fall =>
          intro th2 Ls2 rw2 ls H locs hM2 hmlp_fall hl hP hD hS hq
          replace hq : s_Model_fall st ck he qu lo ow fl op th Ls e_ = (if (th2 e_) = 0 then (s_Model_fall_124 st ck he qu lo ow fl e_ th2 Ls2) else (if (nI ((Ls2 (2 * e_)).length)) ≤ 0 then (s_Model_fall_124 st ck he qu lo ow fl e_ th2 Ls2) else (bnd2 (s_Model_remove Ls2 (2 * e_)) (fun r9 Ls9 => bnd (α := Int32) (if 256 ≤ r9 then (0) else (1)) (fun y11 => lp_fall st ck he qu lo ow fl e_ nlp_fall (upd th2 e_ y11) Ls9))))) := hq
          refine lv_aload_n hx hb d_Model_fall_77 rfl (lv_at hl 1 rfl) ?_
          refine va_get (D := D) (ci := 7) (v := .ref a_th) (C := R_Model) (T := F_Model) (N := 28) hx hb hts hin_Model hown hK hP 0 rfl rfl 19 (by decide) (hts _ (xm ww_552)) (fun _ h9 => h9) rfl d_Model_fall_78 ?_
          refine lv_iload_n hx hb d_Model_fall_81 rfl (lv_at hl 2 rfl) ?_
          refine xzald (k := e_) hx hb hK hP 9 1 rfl rfl rfl he_ (by decide) d_Model_fall_82 ?_
          refine lv_if_eq (tgt := 124) hx hb d_Model_fall_83 rfl (fun h7 => ?_) (fun h7 => ?_)
          · replace hq := hq.trans (if_pos h7)
            exact Cs_Model_fall_124 th2 Ls2 rw2 _ _ _ hM2 (lv_sub hl [0, 1, 2] rfl) hP hD hS hq
          replace hq := hq.trans (if_neg h7)
          refine lv_aload_n hx hb d_Model_fall_86 rfl (lv_at hl 1 rfl) ?_
          refine va_get (D := D) (ci := 7) (v := .ref a_sz) (C := R_Model) (T := F_Model) (N := 28) hx hb hts hin_Model hown hK hP 0 rfl rfl 17 (by decide) (hts _ (xm ww_550)) (fun _ h9 => h9) rfl d_Model_fall_87 ?_
          refine lv_iconst (v := 2) hx hb d_Model_fall_90 rfl ?_
          refine lv_iload_n hx hb d_Model_fall_91 rfl (lv_at hl 2 rfl) ?_
          refine lv_imul hx hb d_Model_fall_92 ?_
          refine xtop (y := nI (2 * e_)) (pk_mul 2 e_) ?_
          refine xiald (k := (2 * e_)) hx hb hK hP 11 0 rfl rfl rfl (by omega) (by decide) d_Model_fall_93 ?_
          refine xtop (y := nI ((Ls2 (2 * e_)).length)) rfl ?_
          refine lv_if_le (tgt := 124) hx hb d_Model_fall_94 rfl (fun h8 => ?_) (fun h8 => ?_)
          · replace hq := hq.trans (if_pos h8)
            exact Cs_Model_fall_124 th2 Ls2 rw2 _ _ _ hM2 (lv_sub hl [0, 1, 2] rfl) hP hD hS hq
          replace hq := hq.trans (if_neg h8)
          refine lv_aload_n hx hb d_Model_fall_97 rfl (lv_at hl 1 rfl) ?_
          refine va_get (D := D) (ci := 7) (v := .ref a_th) (C := R_Model) (T := F_Model) (N := 28) hx hb hts hin_Model hown hK hP 0 rfl rfl 19 (by decide) (hts _ (xm ww_552)) (fun _ h9 => h9) rfl d_Model_fall_98 ?_
          refine lv_iload_n hx hb d_Model_fall_101 rfl (lv_at hl 2 rfl) ?_
          refine lv_aload_n hx hb d_Model_fall_102 rfl (lv_at hl 1 rfl) ?_
          refine lv_iconst (v := 2) hx hb d_Model_fall_103 rfl ?_
          refine lv_iload_n hx hb d_Model_fall_104 rfl (lv_at hl 2 rfl) ?_
          refine lv_imul hx hb d_Model_fall_105 ?_
          refine xtop (y := nI (2 * e_)) (pk_mul 2 e_) ?_
          refine xcall_i (wc := [(h0, .inr (7, [.int tg, .ref a_st, .ref a_ck, .ref a_en, .ref a_au, .ref a_he, .ref a_qu, .ref a_lo, .ref a_ow, .ref a_fl, .ref a_ti, .ref a_gd, .ref a_ak, .ref a_sp, .ref a_se, .ref a_sd, .ref a_rw, .ref a_sz, .ref a_op, .ref a_th, .ref a_me, .ref a_pk, .int (nI kc), .int cm, .int su, .ref a_re, .int (nI kq), .ref a_dr])), (a_rw, .inl (cI, 256, .inl rw2)), (a_sz, .inl (cI, 4, .inl (szf Ls2)))]) (wr := [(a_st, .inl (cI, 2, .inl st)), (a_ck, .inl (cI, 2, .inl ck)), (a_he, .inl (cZ, 2, .inl he)), (a_qu, .inl (cZ, 2, .inl qu)), (a_lo, .inl (cI, 2, .inl lo)), (a_ow, .inl (cI, 2, .inl ow)), (a_fl, .inl (cI, 2, .inl (upd fl e_ ((fl e_) + 1)))), (a_op, .inl (cZ, 4, .inl op)), (a_th, .inl (cZ, 2, .inl th2))]) (ws1 := fun (u : (Nat → List Int32) × (Nat → Int32)) => [(h0, .inr (7, [.int tg, .ref a_st, .ref a_ck, .ref a_en, .ref a_au, .ref a_he, .ref a_qu, .ref a_lo, .ref a_ow, .ref a_fl, .ref a_ti, .ref a_gd, .ref a_ak, .ref a_sp, .ref a_se, .ref a_sd, .ref a_rw, .ref a_sz, .ref a_op, .ref a_th, .ref a_me, .ref a_pk, .int (nI kc), .int cm, .int su, .ref a_re, .int (nI kq), .ref a_dr])), (a_st, .inl (cI, 2, .inl st)), (a_ck, .inl (cI, 2, .inl ck)), (a_he, .inl (cZ, 2, .inl he)), (a_qu, .inl (cZ, 2, .inl qu)), (a_lo, .inl (cI, 2, .inl lo)), (a_ow, .inl (cI, 2, .inl ow)), (a_fl, .inl (cI, 2, .inl (upd fl e_ ((fl e_) + 1)))), (a_op, .inl (cZ, 4, .inl op)), (a_th, .inl (cZ, 2, .inl th2)), (a_rw, .inl (cI, 256, .inl u.2)), (a_sz, .inl (cI, 4, .inl (szf u.1)))]) (va_runV (As := [.int (nI (2 * e_))]) (rest := [.int (nI e_), .ref a_th]) ⟨hx, hb, hml, hown, hts⟩ (c_Model_remove Ls2 (2 * e_) h0 a_st a_ck a_en a_au a_he a_qu a_lo a_ow a_fl a_ti a_gd a_ak a_sp a_se a_sd a_rw a_sz a_op a_th a_me a_pk a_re a_dr tg kc cm su kq rw2 hM2 (by omega) (Nat.pos_of_ne_zero fun h9 => h8 (by rw [h9]; decide)) H.size) (xcwV 1 hts ww_646 ww_643 ww_645 ws_Model_remove ww_8 (by decide +kernel) rfl rfl ⟨Nat.le_of_ble_eq_true rfl, Nat.le_of_ble_eq_true rfl⟩) (xPreV (ci := 7) (q0 := 0) (q := (R_Model, F_Model, 28)) (hP.sub [0, 10, 11] rfl) (hD.sub [0, 10, 11] (by decide) rfl) hK hN rfl rfl rfl) rfl rfl hl.1 rfl (lv_room (Nat.le_of_ble_eq_true rfl)) d_Model_fall_106 ⟨Nat.le_of_ble_eq_true rfl, Nat.le_of_ble_eq_true rfl⟩) hP hD hS hA [0, 10, 11] [1, 2, 3, 4, 5, 6, 7, 8, 9] [9, 0, 1, 2, 3, 4, 5, 6, 7, 8, 10, 11] rfl rfl (by decide) (by decide) (by decide) (fun _ => rfl) (fun r9 u9 H locs hw hP hD hS => ?_)
          obtain ⟨Ls9, rw9⟩ := u9
          obtain ⟨hw, hM_9⟩ := hw
          replace hP : va_P D vwCl [(h0, .inr (7, [.int tg, .ref a_st, .ref a_ck, .ref a_en, .ref a_au, .ref a_he, .ref a_qu, .ref a_lo, .ref a_ow, .ref a_fl, .ref a_ti, .ref a_gd, .ref a_ak, .ref a_sp, .ref a_se, .ref a_sd, .ref a_rw, .ref a_sz, .ref a_op, .ref a_th, .ref a_me, .ref a_pk, .int (nI kc), .int cm, .int su, .ref a_re, .int (nI kq), .ref a_dr])), (a_st, .inl (cI, 2, .inl st)), (a_ck, .inl (cI, 2, .inl ck)), (a_he, .inl (cZ, 2, .inl he)), (a_qu, .inl (cZ, 2, .inl qu)), (a_lo, .inl (cI, 2, .inl lo)), (a_ow, .inl (cI, 2, .inl ow)), (a_fl, .inl (cI, 2, .inl (upd fl e_ ((fl e_) + 1)))), (a_op, .inl (cZ, 4, .inl op)), (a_th, .inl (cZ, 2, .inl th2)), (a_rw, .inl (cI, 256, .inl rw9)), (a_sz, .inl (cI, 4, .inl (szf Ls9)))] H := hP
          replace hD : va_D A [(h0, .inr (7, [.int tg, .ref a_st, .ref a_ck, .ref a_en, .ref a_au, .ref a_he, .ref a_qu, .ref a_lo, .ref a_ow, .ref a_fl, .ref a_ti, .ref a_gd, .ref a_ak, .ref a_sp, .ref a_se, .ref a_sd, .ref a_rw, .ref a_sz, .ref a_op, .ref a_th, .ref a_me, .ref a_pk, .int (nI kc), .int cm, .int su, .ref a_re, .int (nI kq), .ref a_dr])), (a_st, .inl (cI, 2, .inl st)), (a_ck, .inl (cI, 2, .inl ck)), (a_he, .inl (cZ, 2, .inl he)), (a_qu, .inl (cZ, 2, .inl qu)), (a_lo, .inl (cI, 2, .inl lo)), (a_ow, .inl (cI, 2, .inl ow)), (a_fl, .inl (cI, 2, .inl (upd fl e_ ((fl e_) + 1)))), (a_op, .inl (cZ, 4, .inl op)), (a_th, .inl (cZ, 2, .inl th2)), (a_rw, .inl (cI, 256, .inl rw9)), (a_sz, .inl (cI, 4, .inl (szf Ls9)))] := hD
          have hw_9 := hw
          replace hq := hq.trans (bnd2_eq hw)
          try dsimp only at hq
          refine lv_sipush (v := 256) hx hb d_Model_fall_109 rfl ?_
          have J10 : ∀ (y11 : Int32) (H : Heap) (locs : List Loc), y11 = (if 256 ≤ r9 then (0) else (1)) → xB y11 → va_P D vwCl [(h0, .inr (7, [.int tg, .ref a_st, .ref a_ck, .ref a_en, .ref a_au, .ref a_he, .ref a_qu, .ref a_lo, .ref a_ow, .ref a_fl, .ref a_ti, .ref a_gd, .ref a_ak, .ref a_sp, .ref a_se, .ref a_sd, .ref a_rw, .ref a_sz, .ref a_op, .ref a_th, .ref a_me, .ref a_pk, .int (nI kc), .int cm, .int su, .ref a_re, .int (nI kq), .ref a_dr])), (a_st, .inl (cI, 2, .inl st)), (a_ck, .inl (cI, 2, .inl ck)), (a_he, .inl (cZ, 2, .inl he)), (a_qu, .inl (cZ, 2, .inl qu)), (a_lo, .inl (cI, 2, .inl lo)), (a_ow, .inl (cI, 2, .inl ow)), (a_fl, .inl (cI, 2, .inl (upd fl e_ ((fl e_) + 1)))), (a_op, .inl (cZ, 4, .inl op)), (a_th, .inl (cZ, 2, .inl th2)), (a_rw, .inl (cI, 256, .inl rw9)), (a_sz, .inl (cI, 4, .inl (szf Ls9)))] H → va_D A [(h0, .inr (7, [.int tg, .ref a_st, .ref a_ck, .ref a_en, .ref a_au, .ref a_he, .ref a_qu, .ref a_lo, .ref a_ow, .ref a_fl, .ref a_ti, .ref a_gd, .ref a_ak, .ref a_sp, .ref a_se, .ref a_sd, .ref a_rw, .ref a_sz, .ref a_op, .ref a_th, .ref a_me, .ref a_pk, .int (nI kc), .int cm, .int su, .ref a_re, .int (nI kq), .ref a_dr])), (a_st, .inl (cI, 2, .inl st)), (a_ck, .inl (cI, 2, .inl ck)), (a_he, .inl (cZ, 2, .inl he)), (a_qu, .inl (cZ, 2, .inl qu)), (a_lo, .inl (cI, 2, .inl lo)), (a_ow, .inl (cI, 2, .inl ow)), (a_fl, .inl (cI, 2, .inl (upd fl e_ ((fl e_) + 1)))), (a_op, .inl (cZ, 4, .inl op)), (a_th, .inl (cZ, 2, .inl th2)), (a_rw, .inl (cI, 256, .inl rw9)), (a_sz, .inl (cI, 4, .inl (szf Ls9)))] → va_S A s.heap H locs → W p l e rm_Model_fall s m args below meth c H locs 0 0 Q (F0 m 120 ls [.int y11, .int (nI e_), .ref a_th]) := by
            intro y11 H locs hy11 hby11 hP hD hS
            replace hq := hq.trans (bnd_eq hy11)
            try dsimp only at hq
            refine xzast (k := e_) hx hb hK hP hD hS 9 1 rfl rfl rfl he_ (by decide) hby11 d_Model_fall_120 (fun H locs hP hD hS => ?_)
            replace hP : va_P D vwCl [(h0, .inr (7, [.int tg, .ref a_st, .ref a_ck, .ref a_en, .ref a_au, .ref a_he, .ref a_qu, .ref a_lo, .ref a_ow, .ref a_fl, .ref a_ti, .ref a_gd, .ref a_ak, .ref a_sp, .ref a_se, .ref a_sd, .ref a_rw, .ref a_sz, .ref a_op, .ref a_th, .ref a_me, .ref a_pk, .int (nI kc), .int cm, .int su, .ref a_re, .int (nI kq), .ref a_dr])), (a_st, .inl (cI, 2, .inl st)), (a_ck, .inl (cI, 2, .inl ck)), (a_he, .inl (cZ, 2, .inl he)), (a_qu, .inl (cZ, 2, .inl qu)), (a_lo, .inl (cI, 2, .inl lo)), (a_ow, .inl (cI, 2, .inl ow)), (a_fl, .inl (cI, 2, .inl (upd fl e_ ((fl e_) + 1)))), (a_op, .inl (cZ, 4, .inl op)), (a_th, .inl (cZ, 2, .inl (upd th2 e_ y11))), (a_rw, .inl (cI, 256, .inl rw9)), (a_sz, .inl (cI, 4, .inl (szf Ls9)))] H := hP
            replace hD : va_D A [(h0, .inr (7, [.int tg, .ref a_st, .ref a_ck, .ref a_en, .ref a_au, .ref a_he, .ref a_qu, .ref a_lo, .ref a_ow, .ref a_fl, .ref a_ti, .ref a_gd, .ref a_ak, .ref a_sp, .ref a_se, .ref a_sd, .ref a_rw, .ref a_sz, .ref a_op, .ref a_th, .ref a_me, .ref a_pk, .int (nI kc), .int cm, .int su, .ref a_re, .int (nI kq), .ref a_dr])), (a_st, .inl (cI, 2, .inl st)), (a_ck, .inl (cI, 2, .inl ck)), (a_he, .inl (cZ, 2, .inl he)), (a_qu, .inl (cZ, 2, .inl qu)), (a_lo, .inl (cI, 2, .inl lo)), (a_ow, .inl (cI, 2, .inl ow)), (a_fl, .inl (cI, 2, .inl (upd fl e_ ((fl e_) + 1)))), (a_op, .inl (cZ, 4, .inl op)), (a_th, .inl (cZ, 2, .inl (upd th2 e_ y11))), (a_rw, .inl (cI, 256, .inl rw9)), (a_sz, .inl (cI, 4, .inl (szf Ls9)))] := hD
            refine lv_goto (tgt := 77) hx hb d_Model_fall_121 rfl ?_
            exact ihlp_fall (upd th2 e_ y11) Ls9 rw9 _ _ _ hM_9 (by have h9 := congrArg (fun z => (z.2 (2 * e_)).length) hw_9; have hp8 : 0 < (Ls2 (2 * e_)).length := (Nat.pos_of_ne_zero fun h9 => h8 (by rw [h9]; decide)); simp [s_Model_remove, va_up] at h9; omega) (lv_sub hl [0, 1, 2] rfl) hP hD hS hq
          have hv : ((if 256 ≤ r9 then (0) else (1)) : Int32) = (if 256 ≤ r9 then (0) else (1)) := rfl
          refine lv_icmp_ge (tgt := 119) hx hb d_Model_fall_112 rfl (fun h12 => ?_) (fun h12 => ?_)
          · replace hv := hv.trans (if_pos h12)
            refine lv_iconst (v := 0) hx hb d_Model_fall_119 rfl ?_
            exact J10 _ _ _ hv.symm (Or.inl rfl) hP hD hS
          replace hv := hv.trans (if_neg h12)
          refine lv_iconst (v := 1) hx hb d_Model_fall_115 rfl ?_
          refine lv_goto (tgt := 120) hx hb d_Model_fall_116 rfl ?_
          exact J10 _ _ _ hv.symm (Or.inr rfl) hP hD hS
      exact LPlp_fall ((Ls1 (2 * e_)).length) (upd th e_ 1) Ls1 rw1 _ _ _ hM1 (Nat.le_refl _) (lv_sub hl [0, 1, 2] rfl) hP hD hS hq
    refine lv_iload_n hx hb d_Model_fall_26 rfl (lv_at hl 0 rfl) ?_
    refine lv_if_eq (tgt := 55) hx hb d_Model_fall_27 rfl (fun h13 => ?_) (fun h13 => ?_)
    · replace hq := hq.trans (if_pos h13)
      exact Cs_Model_fall_55 Ls rw _ _ _ hM (lv_sub hl [0, 1, 2] rfl) hP hD hS hq
    replace hq := hq.trans (if_neg h13)
    refine lv_aload_n hx hb d_Model_fall_30 rfl (lv_at hl 1 rfl) ?_
    refine va_get (D := D) (ci := 7) (v := .ref a_op) (C := R_Model) (T := F_Model) (N := 28) hx hb hts hin_Model hown hK hP 0 rfl rfl 18 (by decide) (hts _ (xm ww_551)) (fun _ h9 => h9) rfl d_Model_fall_31 ?_
    refine lv_iconst (v := 2) hx hb d_Model_fall_34 rfl ?_
    refine lv_iload_n hx hb d_Model_fall_35 rfl (lv_at hl 2 rfl) ?_
    refine lv_imul hx hb d_Model_fall_36 ?_
    refine xtop (y := nI (2 * e_)) (pk_mul 2 e_) ?_
    refine lv_iconst (v := 1) hx hb d_Model_fall_37 rfl ?_
    refine lv_iadd hx hb d_Model_fall_38 ?_
    refine xtop (y := nI (2 * e_ + 1)) (nI_add (2 * e_) 1) ?_
    refine xzald (k := (2 * e_ + 1)) hx hb hK hP 8 1 rfl rfl rfl (by omega) (by decide) d_Model_fall_39 ?_
    refine lv_if_eq (tgt := 55) hx hb d_Model_fall_40 rfl (fun h14 => ?_) (fun h14 => ?_)
    · replace hq := hq.trans (if_pos h14)
      exact Cs_Model_fall_55 Ls rw _ _ _ hM (lv_sub hl [0, 1, 2] rfl) hP hD hS hq
    replace hq := hq.trans (if_neg h14)
    refine lv_aload_n hx hb d_Model_fall_43 rfl (lv_at hl 1 rfl) ?_
    refine lv_iconst (v := 2) hx hb d_Model_fall_44 rfl ?_
    refine lv_iload_n hx hb d_Model_fall_45 rfl (lv_at hl 2 rfl) ?_
    refine lv_imul hx hb d_Model_fall_46 ?_
    refine xtop (y := nI (2 * e_)) (pk_mul 2 e_) ?_
    refine lv_iconst (v := 1) hx hb d_Model_fall_47 rfl ?_
    refine lv_iadd hx hb d_Model_fall_48 ?_
    refine xtop (y := nI (2 * e_ + 1)) (nI_add (2 * e_) 1) ?_
    refine lv_sipush (v := 257) hx hb d_Model_fall_49 rfl ?_
    refine xcall_v (wc := [(h0, .inr (7, [.int tg, .ref a_st, .ref a_ck, .ref a_en, .ref a_au, .ref a_he, .ref a_qu, .ref a_lo, .ref a_ow, .ref a_fl, .ref a_ti, .ref a_gd, .ref a_ak, .ref a_sp, .ref a_se, .ref a_sd, .ref a_rw, .ref a_sz, .ref a_op, .ref a_th, .ref a_me, .ref a_pk, .int (nI kc), .int cm, .int su, .ref a_re, .int (nI kq), .ref a_dr])), (a_rw, .inl (cI, 256, .inl rw)), (a_sz, .inl (cI, 4, .inl (szf Ls)))]) (wr := [(a_st, .inl (cI, 2, .inl st)), (a_ck, .inl (cI, 2, .inl ck)), (a_he, .inl (cZ, 2, .inl he)), (a_qu, .inl (cZ, 2, .inl qu)), (a_lo, .inl (cI, 2, .inl lo)), (a_ow, .inl (cI, 2, .inl ow)), (a_fl, .inl (cI, 2, .inl (upd fl e_ ((fl e_) + 1)))), (a_op, .inl (cZ, 4, .inl op)), (a_th, .inl (cZ, 2, .inl th))]) (ws1 := fun (u : (Nat → List Int32) × (Nat → Int32)) => [(h0, .inr (7, [.int tg, .ref a_st, .ref a_ck, .ref a_en, .ref a_au, .ref a_he, .ref a_qu, .ref a_lo, .ref a_ow, .ref a_fl, .ref a_ti, .ref a_gd, .ref a_ak, .ref a_sp, .ref a_se, .ref a_sd, .ref a_rw, .ref a_sz, .ref a_op, .ref a_th, .ref a_me, .ref a_pk, .int (nI kc), .int cm, .int su, .ref a_re, .int (nI kq), .ref a_dr])), (a_st, .inl (cI, 2, .inl st)), (a_ck, .inl (cI, 2, .inl ck)), (a_he, .inl (cZ, 2, .inl he)), (a_qu, .inl (cZ, 2, .inl qu)), (a_lo, .inl (cI, 2, .inl lo)), (a_ow, .inl (cI, 2, .inl ow)), (a_fl, .inl (cI, 2, .inl (upd fl e_ ((fl e_) + 1)))), (a_op, .inl (cZ, 4, .inl op)), (a_th, .inl (cZ, 2, .inl th)), (a_rw, .inl (cI, 256, .inl u.2)), (a_sz, .inl (cI, 4, .inl (szf u.1)))]) (va_runV (As := [.int (nI (2 * e_ + 1)), .int 257]) (rest := []) ⟨hx, hb, hml, hown, hts⟩ (c_Model_add Ls (2 * e_ + 1) 257 h0 a_st a_ck a_en a_au a_he a_qu a_lo a_ow a_fl a_ti a_gd a_ak a_sp a_se a_sd a_rw a_sz a_op a_th a_me a_pk a_re a_dr tg kc cm su kq rw hM (by omega) hlen H.size) (xcwV 2 hts ww_634 ww_631 ww_633 ws_Model_add ww_8 (by decide +kernel) rfl rfl ⟨Nat.le_of_ble_eq_true rfl, Nat.le_of_ble_eq_true rfl⟩) (xPreV (ci := 7) (q0 := 0) (q := (R_Model, F_Model, 28)) (hP.sub [0, 10, 11] rfl) (hD.sub [0, 10, 11] (by decide) rfl) hK hN rfl rfl rfl) rfl rfl hl.1 rfl (lv_room (Nat.le_of_ble_eq_true rfl)) d_Model_fall_52 ⟨Nat.le_of_ble_eq_true rfl, Nat.le_of_ble_eq_true rfl⟩) hP hD hS hA [0, 10, 11] [1, 2, 3, 4, 5, 6, 7, 8, 9] [9, 0, 1, 2, 3, 4, 5, 6, 7, 8, 10, 11] rfl rfl (by decide) (by decide) (by decide) (fun _ => rfl) (fun u15 H locs hw hP hD hS => ?_)
    obtain ⟨Ls15, rw15⟩ := u15
    obtain ⟨hw, hM_15⟩ := hw
    replace hP : va_P D vwCl [(h0, .inr (7, [.int tg, .ref a_st, .ref a_ck, .ref a_en, .ref a_au, .ref a_he, .ref a_qu, .ref a_lo, .ref a_ow, .ref a_fl, .ref a_ti, .ref a_gd, .ref a_ak, .ref a_sp, .ref a_se, .ref a_sd, .ref a_rw, .ref a_sz, .ref a_op, .ref a_th, .ref a_me, .ref a_pk, .int (nI kc), .int cm, .int su, .ref a_re, .int (nI kq), .ref a_dr])), (a_st, .inl (cI, 2, .inl st)), (a_ck, .inl (cI, 2, .inl ck)), (a_he, .inl (cZ, 2, .inl he)), (a_qu, .inl (cZ, 2, .inl qu)), (a_lo, .inl (cI, 2, .inl lo)), (a_ow, .inl (cI, 2, .inl ow)), (a_fl, .inl (cI, 2, .inl (upd fl e_ ((fl e_) + 1)))), (a_op, .inl (cZ, 4, .inl op)), (a_th, .inl (cZ, 2, .inl th)), (a_rw, .inl (cI, 256, .inl rw15)), (a_sz, .inl (cI, 4, .inl (szf Ls15)))] H := hP
    replace hD : va_D A [(h0, .inr (7, [.int tg, .ref a_st, .ref a_ck, .ref a_en, .ref a_au, .ref a_he, .ref a_qu, .ref a_lo, .ref a_ow, .ref a_fl, .ref a_ti, .ref a_gd, .ref a_ak, .ref a_sp, .ref a_se, .ref a_sd, .ref a_rw, .ref a_sz, .ref a_op, .ref a_th, .ref a_me, .ref a_pk, .int (nI kc), .int cm, .int su, .ref a_re, .int (nI kq), .ref a_dr])), (a_st, .inl (cI, 2, .inl st)), (a_ck, .inl (cI, 2, .inl ck)), (a_he, .inl (cZ, 2, .inl he)), (a_qu, .inl (cZ, 2, .inl qu)), (a_lo, .inl (cI, 2, .inl lo)), (a_ow, .inl (cI, 2, .inl ow)), (a_fl, .inl (cI, 2, .inl (upd fl e_ ((fl e_) + 1)))), (a_op, .inl (cZ, 4, .inl op)), (a_th, .inl (cZ, 2, .inl th)), (a_rw, .inl (cI, 256, .inl rw15)), (a_sz, .inl (cI, 4, .inl (szf Ls15)))] := hD
    have hw_15 := hw
    replace hq := hq.trans (bnd_eq hw)
    try dsimp only at hq
    exact Cs_Model_fall_55 Ls15 rw15 _ _ _ hM_15 (lv_sub hl [0, 1, 2] rfl) hP hD hS hq
  have hv : ((if (st e_) = 5 then (1) else (0)) : Int32) = (if (st e_) = 5 then (1) else (0)) := rfl
  refine lv_icmp_ne (tgt := 14) hx hb d_Model_fall_7 rfl (fun h16 => ?_) (fun h16 => ?_)
  · replace hv := hv.trans (if_neg h16)
    refine lv_iconst (v := 0) hx hb d_Model_fall_14 rfl ?_
    exact J1 _ _ _ hv.symm (Or.inl rfl) hP hD hS
  replace hv := hv.trans (if_pos h16)
  refine lv_iconst (v := 1) hx hb d_Model_fall_10 rfl ?_
  refine lv_goto (tgt := 15) hx hb d_Model_fall_11 rfl ?_
  exact J1 _ _ _ hv.symm (Or.inr rfl) hP hD hS

def s_Model_late (st : Nat → Int32) (ck : Nat → Int32) (en : Nat → Int32) (au : Nat → Int32) (he : Nat → Int32) (e_ : Nat) : Int32 × (Nat → Int32) × (Nat → Int32) := bnd (α := Int32) (if (en e_) = 0 then (if (au e_) = 0 then (0) else (1)) else (1)) (fun y2 => bnd (α := Int32) (if (st e_) = 0 then (if ((upd ck e_ ((ck e_) + 1)) e_) = 6 then (1) else (if (st e_) = 1 then (if ((upd ck e_ ((ck e_) + 1)) e_) = 12 then (1) else (if (st e_) = 2 then (if (en e_) = 0 then (if (au e_) = 0 then (if (st e_) = 3 then (if (he e_) = 0 then (0) else (1)) else (0)) else (if (he e_) = 0 then (if (st e_) = 3 then (if (he e_) = 0 then (0) else (1)) else (0)) else (1))) else (1)) else (if (st e_) = 3 then (if (he e_) = 0 then (0) else (1)) else (0)))) else (if (st e_) = 2 then (if (en e_) = 0 then (if (au e_) = 0 then (if (st e_) = 3 then (if (he e_) = 0 then (0) else (1)) else (0)) else (if (he e_) = 0 then (if (st e_) = 3 then (if (he e_) = 0 then (0) else (1)) else (0)) else (1))) else (1)) else (if (st e_) = 3 then (if (he e_) = 0 then (0) else (1)) else (0))))) else (if (st e_) = 1 then (if ((upd ck e_ ((ck e_) + 1)) e_) = 12 then (1) else (if (st e_) = 2 then (if (en e_) = 0 then (if (au e_) = 0 then (if (st e_) = 3 then (if (he e_) = 0 then (0) else (1)) else (0)) else (if (he e_) = 0 then (if (st e_) = 3 then (if (he e_) = 0 then (0) else (1)) else (0)) else (1))) else (1)) else (if (st e_) = 3 then (if (he e_) = 0 then (0) else (1)) else (0)))) else (if (st e_) = 2 then (if (en e_) = 0 then (if (au e_) = 0 then (if (st e_) = 3 then (if (he e_) = 0 then (0) else (1)) else (0)) else (if (he e_) = 0 then (if (st e_) = 3 then (if (he e_) = 0 then (0) else (1)) else (0)) else (1))) else (1)) else (if (st e_) = 3 then (if (he e_) = 0 then (0) else (1)) else (0))))) (fun y4 => if y4 = 0 then (bnd (α := Int32) (if (st e_) = 3 then (if ((upd ck e_ ((ck e_) + 1)) e_) = 12 then (1) else (if (st e_) = 5 then (if y2 = 0 then (1) else (0)) else (0))) else (if (st e_) = 4 then (if ((upd ck e_ ((ck e_) + 1)) e_) = 12 then (1) else (if (st e_) = 5 then (if y2 = 0 then (1) else (0)) else (0))) else (if (st e_) = 5 then (if y2 = 0 then (1) else (0)) else (0)))) (fun y7 => (y7, st, upd ck e_ ((ck e_) + 1)))) else (0, upd st e_ ((st e_) + 1), upd (upd ck e_ ((ck e_) + 1)) e_ 0)))
abbrev rm_Model_late : Room := { frames := 0, cells := 0, slots := 0, locals := 0 }
set_option maxHeartbeats 4000000 in
set_option maxRecDepth 100000 in
theorem c_Model_late {l : Launch} {D : va_G} {cI cZ : ClassId} (st : Nat → Int32) (ck : Nat → Int32) (en : Nat → Int32) (au : Nat → Int32) (he : Nat → Int32) (e_ : Nat) (h0 : Nat) (a_st : Nat) (a_ck : Nat) (a_en : Nat) (a_au : Nat) (a_he : Nat) (a_qu : Nat) (a_lo : Nat) (a_ow : Nat) (a_fl : Nat) (a_ti : Nat) (a_gd : Nat) (a_ak : Nat) (a_sp : Nat) (a_se : Nat) (a_sd : Nat) (a_rw : Nat) (a_sz : Nat) (a_op : Nat) (a_th : Nat) (a_me : Nat) (a_pk : Nat) (a_re : Nat) (a_dr : Nat) (tg : Int32) (kc : Nat) (cm : Int32) (su : Int32) (kq : Nat) (he_ : e_ < 2) (sz : Nat) : Met l y_Model_late (w_Model_late) rm_Model_late (va_Pc [.ref h0, .int (nI e_)] (xPre xNs D vwCl cI cZ [(h0, .inr (7, [.int tg, .ref a_st, .ref a_ck, .ref a_en, .ref a_au, .ref a_he, .ref a_qu, .ref a_lo, .ref a_ow, .ref a_fl, .ref a_ti, .ref a_gd, .ref a_ak, .ref a_sp, .ref a_se, .ref a_sd, .ref a_rw, .ref a_sz, .ref a_op, .ref a_th, .ref a_me, .ref a_pk, .int (nI kc), .int cm, .int su, .ref a_re, .int (nI kq), .ref a_dr])), (a_st, .inl (cI, 2, .inl st)), (a_ck, .inl (cI, 2, .inl ck)), (a_en, .inl (cZ, 2, .inl en)), (a_au, .inl (cZ, 2, .inl au)), (a_he, .inl (cZ, 2, .inl he))] sz)) (va_Qi (fun (r : Int32) (u : (Nat → Int32) × (Nat → Int32)) => (r, u.1, u.2) = s_Model_late st ck en au he e_ ∧ xB r) (fun u t9 => xAt D vwCl (va_A [(h0, .inr (7, [.int tg, .ref a_st, .ref a_ck, .ref a_en, .ref a_au, .ref a_he, .ref a_qu, .ref a_lo, .ref a_ow, .ref a_fl, .ref a_ti, .ref a_gd, .ref a_ak, .ref a_sp, .ref a_se, .ref a_sd, .ref a_rw, .ref a_sz, .ref a_op, .ref a_th, .ref a_me, .ref a_pk, .int (nI kc), .int cm, .int su, .ref a_re, .int (nI kq), .ref a_dr])), (a_st, .inl (cI, 2, .inl st)), (a_ck, .inl (cI, 2, .inl ck)), (a_en, .inl (cZ, 2, .inl en)), (a_au, .inl (cZ, 2, .inl au)), (a_he, .inl (cZ, 2, .inl he))] sz) [(h0, .inr (7, [.int tg, .ref a_st, .ref a_ck, .ref a_en, .ref a_au, .ref a_he, .ref a_qu, .ref a_lo, .ref a_ow, .ref a_fl, .ref a_ti, .ref a_gd, .ref a_ak, .ref a_sp, .ref a_se, .ref a_sd, .ref a_rw, .ref a_sz, .ref a_op, .ref a_th, .ref a_me, .ref a_pk, .int (nI kc), .int cm, .int su, .ref a_re, .int (nI kq), .ref a_dr])), (a_st, .inl (cI, 2, .inl u.1)), (a_ck, .inl (cI, 2, .inl u.2)), (a_en, .inl (cZ, 2, .inl en)), (a_au, .inl (cZ, 2, .inl au)), (a_he, .inl (cZ, 2, .inl he))] t9) (va_A [(h0, .inr (7, [.int tg, .ref a_st, .ref a_ck, .ref a_en, .ref a_au, .ref a_he, .ref a_qu, .ref a_lo, .ref a_ow, .ref a_fl, .ref a_ti, .ref a_gd, .ref a_ak, .ref a_sp, .ref a_se, .ref a_sd, .ref a_rw, .ref a_sz, .ref a_op, .ref a_th, .ref a_me, .ref a_pk, .int (nI kc), .int cm, .int su, .ref a_re, .int (nI kq), .ref a_dr])), (a_st, .inl (cI, 2, .inl st)), (a_ck, .inl (cI, 2, .inl ck)), (a_en, .inl (cZ, 2, .inl en)), (a_au, .inl (cZ, 2, .inl au)), (a_he, .inl (cZ, 2, .inl he))] sz)) 0 0 (va_A [(h0, .inr (7, [.int tg, .ref a_st, .ref a_ck, .ref a_en, .ref a_au, .ref a_he, .ref a_qu, .ref a_lo, .ref a_ow, .ref a_fl, .ref a_ti, .ref a_gd, .ref a_ak, .ref a_sp, .ref a_se, .ref a_sd, .ref a_rw, .ref a_sz, .ref a_op, .ref a_th, .ref a_me, .ref a_pk, .int (nI kc), .int cm, .int su, .ref a_re, .int (nI kq), .ref a_dr])), (a_st, .inl (cI, 2, .inl st)), (a_ck, .inl (cI, 2, .inl ck)), (a_en, .inl (cZ, 2, .inl en)), (a_au, .inl (cZ, 2, .inl au)), (a_he, .inl (cZ, 2, .inl he))] sz) := by
  refine xBody_z (S := (Nat → Int32) × (Nat → Int32)) (cc := b_Model_late) (maxL := 5) (by decide) rfl (Nat.le_of_ble_eq_true rfl) ?_
  intro p e s m args below meth c A H ls Q hx hb hml hin hts hown hP hD hK hN hS hA hl hret
  replace hl : lv_has ls 5 [(0, .ref h0), (1, .int (nI e_))] := hl
  have hin_Model : ∀ w ∈ u_ws R_Model F_Model 28, w ∈ (w_Model_late) := (fun w h => xm (lay_Model w h))
  have hq : s_Model_late st ck en au he e_ = (bnd (α := Int32) (if (en e_) = 0 then (if (au e_) = 0 then (0) else (1)) else (1)) (fun y2 => bnd (α := Int32) (if (st e_) = 0 then (if ((upd ck e_ ((ck e_) + 1)) e_) = 6 then (1) else (if (st e_) = 1 then (if ((upd ck e_ ((ck e_) + 1)) e_) = 12 then (1) else (if (st e_) = 2 then (if (en e_) = 0 then (if (au e_) = 0 then (if (st e_) = 3 then (if (he e_) = 0 then (0) else (1)) else (0)) else (if (he e_) = 0 then (if (st e_) = 3 then (if (he e_) = 0 then (0) else (1)) else (0)) else (1))) else (1)) else (if (st e_) = 3 then (if (he e_) = 0 then (0) else (1)) else (0)))) else (if (st e_) = 2 then (if (en e_) = 0 then (if (au e_) = 0 then (if (st e_) = 3 then (if (he e_) = 0 then (0) else (1)) else (0)) else (if (he e_) = 0 then (if (st e_) = 3 then (if (he e_) = 0 then (0) else (1)) else (0)) else (1))) else (1)) else (if (st e_) = 3 then (if (he e_) = 0 then (0) else (1)) else (0))))) else (if (st e_) = 1 then (if ((upd ck e_ ((ck e_) + 1)) e_) = 12 then (1) else (if (st e_) = 2 then (if (en e_) = 0 then (if (au e_) = 0 then (if (st e_) = 3 then (if (he e_) = 0 then (0) else (1)) else (0)) else (if (he e_) = 0 then (if (st e_) = 3 then (if (he e_) = 0 then (0) else (1)) else (0)) else (1))) else (1)) else (if (st e_) = 3 then (if (he e_) = 0 then (0) else (1)) else (0)))) else (if (st e_) = 2 then (if (en e_) = 0 then (if (au e_) = 0 then (if (st e_) = 3 then (if (he e_) = 0 then (0) else (1)) else (0)) else (if (he e_) = 0 then (if (st e_) = 3 then (if (he e_) = 0 then (0) else (1)) else (0)) else (1))) else (1)) else (if (st e_) = 3 then (if (he e_) = 0 then (0) else (1)) else (0))))) (fun y4 => if y4 = 0 then (bnd (α := Int32) (if (st e_) = 3 then (if ((upd ck e_ ((ck e_) + 1)) e_) = 12 then (1) else (if (st e_) = 5 then (if y2 = 0 then (1) else (0)) else (0))) else (if (st e_) = 4 then (if ((upd ck e_ ((ck e_) + 1)) e_) = 12 then (1) else (if (st e_) = 5 then (if y2 = 0 then (1) else (0)) else (0))) else (if (st e_) = 5 then (if y2 = 0 then (1) else (0)) else (0)))) (fun y7 => (y7, st, upd ck e_ ((ck e_) + 1)))) else (0, upd st e_ ((st e_) + 1), upd (upd ck e_ ((ck e_) + 1)) e_ 0)))) := rfl
  refine lv_aload_n hx hb d_Model_late_0 rfl (lv_at hl 0 rfl) ?_
  refine va_get (D := D) (ci := 7) (v := .ref a_ck) (C := R_Model) (T := F_Model) (N := 28) hx hb hts hin_Model hown hK hP 0 rfl rfl 2 (by decide) (hts _ (xm ww_535)) (fun _ h9 => h9) rfl d_Model_late_1 ?_
  refine lv_iload_n hx hb d_Model_late_4 rfl (lv_at hl 1 rfl) ?_
  refine lv_dup2_11 hx hb d_Model_late_5 rfl rfl ?_
  refine xiald (k := e_) hx hb hK hP 2 0 rfl rfl rfl he_ (by decide) d_Model_late_6 ?_
  refine lv_iconst (v := 1) hx hb d_Model_late_7 rfl ?_
  refine lv_iadd hx hb d_Model_late_8 ?_
  refine xiast (k := e_) hx hb hK hP hD hS 2 0 rfl rfl rfl he_ (by decide) d_Model_late_9 (fun H locs hP hD hS => ?_)
  replace hP : va_P D vwCl [(h0, .inr (7, [.int tg, .ref a_st, .ref a_ck, .ref a_en, .ref a_au, .ref a_he, .ref a_qu, .ref a_lo, .ref a_ow, .ref a_fl, .ref a_ti, .ref a_gd, .ref a_ak, .ref a_sp, .ref a_se, .ref a_sd, .ref a_rw, .ref a_sz, .ref a_op, .ref a_th, .ref a_me, .ref a_pk, .int (nI kc), .int cm, .int su, .ref a_re, .int (nI kq), .ref a_dr])), (a_st, .inl (cI, 2, .inl st)), (a_ck, .inl (cI, 2, .inl (upd ck e_ ((ck e_) + 1)))), (a_en, .inl (cZ, 2, .inl en)), (a_au, .inl (cZ, 2, .inl au)), (a_he, .inl (cZ, 2, .inl he))] H := hP
  replace hD : va_D A [(h0, .inr (7, [.int tg, .ref a_st, .ref a_ck, .ref a_en, .ref a_au, .ref a_he, .ref a_qu, .ref a_lo, .ref a_ow, .ref a_fl, .ref a_ti, .ref a_gd, .ref a_ak, .ref a_sp, .ref a_se, .ref a_sd, .ref a_rw, .ref a_sz, .ref a_op, .ref a_th, .ref a_me, .ref a_pk, .int (nI kc), .int cm, .int su, .ref a_re, .int (nI kq), .ref a_dr])), (a_st, .inl (cI, 2, .inl st)), (a_ck, .inl (cI, 2, .inl (upd ck e_ ((ck e_) + 1)))), (a_en, .inl (cZ, 2, .inl en)), (a_au, .inl (cZ, 2, .inl au)), (a_he, .inl (cZ, 2, .inl he))] := hD
  refine lv_aload_n hx hb d_Model_late_10 rfl (lv_at hl 0 rfl) ?_
  refine va_get (D := D) (ci := 7) (v := .ref a_st) (C := R_Model) (T := F_Model) (N := 28) hx hb hts hin_Model hown hK hP 0 rfl rfl 1 (by decide) (hts _ (xm ww_534)) (fun _ h9 => h9) rfl d_Model_late_11 ?_
  refine lv_iload_n hx hb d_Model_late_14 rfl (lv_at hl 1 rfl) ?_
  refine xiald (k := e_) hx hb hK hP 1 0 rfl rfl rfl he_ (by decide) d_Model_late_15 ?_
  refine lv_istore_n hx hb d_Model_late_16 rfl hl (by decide) rfl (fun ls hl => ?_)
  replace hl : lv_has ls 5 [(2, .int (st e_)), (0, .ref h0), (1, .int (nI e_))] := hl
  refine lv_aload_n hx hb d_Model_late_17 rfl (lv_at hl 1 rfl) ?_
  refine va_get (D := D) (ci := 7) (v := .ref a_en) (C := R_Model) (T := F_Model) (N := 28) hx hb hts hin_Model hown hK hP 0 rfl rfl 3 (by decide) (hts _ (xm ww_536)) (fun _ h9 => h9) rfl d_Model_late_18 ?_
  refine lv_iload_n hx hb d_Model_late_21 rfl (lv_at hl 2 rfl) ?_
  refine xzald (k := e_) hx hb hK hP 3 1 rfl rfl rfl he_ (by decide) d_Model_late_22 ?_
  have J1 : ∀ (y2 : Int32) (H : Heap) (locs : List Loc), y2 = (if (en e_) = 0 then (if (au e_) = 0 then (0) else (1)) else (1)) → xB y2 → va_P D vwCl [(h0, .inr (7, [.int tg, .ref a_st, .ref a_ck, .ref a_en, .ref a_au, .ref a_he, .ref a_qu, .ref a_lo, .ref a_ow, .ref a_fl, .ref a_ti, .ref a_gd, .ref a_ak, .ref a_sp, .ref a_se, .ref a_sd, .ref a_rw, .ref a_sz, .ref a_op, .ref a_th, .ref a_me, .ref a_pk, .int (nI kc), .int cm, .int su, .ref a_re, .int (nI kq), .ref a_dr])), (a_st, .inl (cI, 2, .inl st)), (a_ck, .inl (cI, 2, .inl (upd ck e_ ((ck e_) + 1)))), (a_en, .inl (cZ, 2, .inl en)), (a_au, .inl (cZ, 2, .inl au)), (a_he, .inl (cZ, 2, .inl he))] H → va_D A [(h0, .inr (7, [.int tg, .ref a_st, .ref a_ck, .ref a_en, .ref a_au, .ref a_he, .ref a_qu, .ref a_lo, .ref a_ow, .ref a_fl, .ref a_ti, .ref a_gd, .ref a_ak, .ref a_sp, .ref a_se, .ref a_sd, .ref a_rw, .ref a_sz, .ref a_op, .ref a_th, .ref a_me, .ref a_pk, .int (nI kc), .int cm, .int su, .ref a_re, .int (nI kq), .ref a_dr])), (a_st, .inl (cI, 2, .inl st)), (a_ck, .inl (cI, 2, .inl (upd ck e_ ((ck e_) + 1)))), (a_en, .inl (cZ, 2, .inl en)), (a_au, .inl (cZ, 2, .inl au)), (a_he, .inl (cZ, 2, .inl he))] → va_S A s.heap H locs → W p l e rm_Model_late s m args below meth c H locs 0 0 Q (F0 m 40 ls [.int y2]) := by
    intro y2 H locs hy2 hby2 hP hD hS
    replace hq := hq.trans (bnd_eq hy2)
    try dsimp only at hq
    refine lv_istore_n hx hb d_Model_late_40 rfl hl (by decide) rfl (fun ls hl => ?_)
    replace hl : lv_has ls 5 [(3, .int y2), (2, .int (st e_)), (0, .ref h0), (1, .int (nI e_))] := hl
    refine lv_iload_n hx hb d_Model_late_41 rfl (lv_at hl 1 rfl) ?_
    have J3 : ∀ (y4 : Int32) (H : Heap) (locs : List Loc), y4 = (if (st e_) = 0 then (if ((upd ck e_ ((ck e_) + 1)) e_) = 6 then (1) else (if (st e_) = 1 then (if ((upd ck e_ ((ck e_) + 1)) e_) = 12 then (1) else (if (st e_) = 2 then (if (en e_) = 0 then (if (au e_) = 0 then (if (st e_) = 3 then (if (he e_) = 0 then (0) else (1)) else (0)) else (if (he e_) = 0 then (if (st e_) = 3 then (if (he e_) = 0 then (0) else (1)) else (0)) else (1))) else (1)) else (if (st e_) = 3 then (if (he e_) = 0 then (0) else (1)) else (0)))) else (if (st e_) = 2 then (if (en e_) = 0 then (if (au e_) = 0 then (if (st e_) = 3 then (if (he e_) = 0 then (0) else (1)) else (0)) else (if (he e_) = 0 then (if (st e_) = 3 then (if (he e_) = 0 then (0) else (1)) else (0)) else (1))) else (1)) else (if (st e_) = 3 then (if (he e_) = 0 then (0) else (1)) else (0))))) else (if (st e_) = 1 then (if ((upd ck e_ ((ck e_) + 1)) e_) = 12 then (1) else (if (st e_) = 2 then (if (en e_) = 0 then (if (au e_) = 0 then (if (st e_) = 3 then (if (he e_) = 0 then (0) else (1)) else (0)) else (if (he e_) = 0 then (if (st e_) = 3 then (if (he e_) = 0 then (0) else (1)) else (0)) else (1))) else (1)) else (if (st e_) = 3 then (if (he e_) = 0 then (0) else (1)) else (0)))) else (if (st e_) = 2 then (if (en e_) = 0 then (if (au e_) = 0 then (if (st e_) = 3 then (if (he e_) = 0 then (0) else (1)) else (0)) else (if (he e_) = 0 then (if (st e_) = 3 then (if (he e_) = 0 then (0) else (1)) else (0)) else (1))) else (1)) else (if (st e_) = 3 then (if (he e_) = 0 then (0) else (1)) else (0))))) → xB y4 → va_P D vwCl [(h0, .inr (7, [.int tg, .ref a_st, .ref a_ck, .ref a_en, .ref a_au, .ref a_he, .ref a_qu, .ref a_lo, .ref a_ow, .ref a_fl, .ref a_ti, .ref a_gd, .ref a_ak, .ref a_sp, .ref a_se, .ref a_sd, .ref a_rw, .ref a_sz, .ref a_op, .ref a_th, .ref a_me, .ref a_pk, .int (nI kc), .int cm, .int su, .ref a_re, .int (nI kq), .ref a_dr])), (a_st, .inl (cI, 2, .inl st)), (a_ck, .inl (cI, 2, .inl (upd ck e_ ((ck e_) + 1)))), (a_en, .inl (cZ, 2, .inl en)), (a_au, .inl (cZ, 2, .inl au)), (a_he, .inl (cZ, 2, .inl he))] H → va_D A [(h0, .inr (7, [.int tg, .ref a_st, .ref a_ck, .ref a_en, .ref a_au, .ref a_he, .ref a_qu, .ref a_lo, .ref a_ow, .ref a_fl, .ref a_ti, .ref a_gd, .ref a_ak, .ref a_sp, .ref a_se, .ref a_sd, .ref a_rw, .ref a_sz, .ref a_op, .ref a_th, .ref a_me, .ref a_pk, .int (nI kc), .int cm, .int su, .ref a_re, .int (nI kq), .ref a_dr])), (a_st, .inl (cI, 2, .inl st)), (a_ck, .inl (cI, 2, .inl (upd ck e_ ((ck e_) + 1)))), (a_en, .inl (cZ, 2, .inl en)), (a_au, .inl (cZ, 2, .inl au)), (a_he, .inl (cZ, 2, .inl he))] → va_S A s.heap H locs → W p l e rm_Model_late s m args below meth c H locs 0 0 Q (F0 m 123 ls [.int y4]) := by
      intro y4 H locs hy4 hby4 hP hD hS
      replace hq := hq.trans (bnd_eq hy4)
      try dsimp only at hq
      refine lv_istore hx hb d_Model_late_123 hl (by decide) rfl (fun ls hl => ?_)
      replace hl : lv_has ls 5 [(4, .int y4), (3, .int y2), (2, .int (st e_)), (0, .ref h0), (1, .int (nI e_))] := hl
      refine lv_iload hx hb d_Model_late_125 (lv_at hl 0 rfl) ?_
      refine lv_if_eq (tgt := 149) hx hb d_Model_late_127 rfl (fun h5 => ?_) (fun h5 => ?_)
      · replace hq := hq.trans (if_pos h5)
        refine lv_iload_n hx hb d_Model_late_149 rfl (lv_at hl 2 rfl) ?_
        refine lv_iconst (v := 3) hx hb d_Model_late_150 rfl ?_
        have J6 : ∀ (y7 : Int32) (H : Heap) (locs : List Loc), y7 = (if (st e_) = 3 then (if ((upd ck e_ ((ck e_) + 1)) e_) = 12 then (1) else (if (st e_) = 5 then (if y2 = 0 then (1) else (0)) else (0))) else (if (st e_) = 4 then (if ((upd ck e_ ((ck e_) + 1)) e_) = 12 then (1) else (if (st e_) = 5 then (if y2 = 0 then (1) else (0)) else (0))) else (if (st e_) = 5 then (if y2 = 0 then (1) else (0)) else (0)))) → xB y7 → va_P D vwCl [(h0, .inr (7, [.int tg, .ref a_st, .ref a_ck, .ref a_en, .ref a_au, .ref a_he, .ref a_qu, .ref a_lo, .ref a_ow, .ref a_fl, .ref a_ti, .ref a_gd, .ref a_ak, .ref a_sp, .ref a_se, .ref a_sd, .ref a_rw, .ref a_sz, .ref a_op, .ref a_th, .ref a_me, .ref a_pk, .int (nI kc), .int cm, .int su, .ref a_re, .int (nI kq), .ref a_dr])), (a_st, .inl (cI, 2, .inl st)), (a_ck, .inl (cI, 2, .inl (upd ck e_ ((ck e_) + 1)))), (a_en, .inl (cZ, 2, .inl en)), (a_au, .inl (cZ, 2, .inl au)), (a_he, .inl (cZ, 2, .inl he))] H → va_D A [(h0, .inr (7, [.int tg, .ref a_st, .ref a_ck, .ref a_en, .ref a_au, .ref a_he, .ref a_qu, .ref a_lo, .ref a_ow, .ref a_fl, .ref a_ti, .ref a_gd, .ref a_ak, .ref a_sp, .ref a_se, .ref a_sd, .ref a_rw, .ref a_sz, .ref a_op, .ref a_th, .ref a_me, .ref a_pk, .int (nI kc), .int cm, .int su, .ref a_re, .int (nI kq), .ref a_dr])), (a_st, .inl (cI, 2, .inl st)), (a_ck, .inl (cI, 2, .inl (upd ck e_ ((ck e_) + 1)))), (a_en, .inl (cZ, 2, .inl en)), (a_au, .inl (cZ, 2, .inl au)), (a_he, .inl (cZ, 2, .inl he))] → va_S A s.heap H locs → W p l e rm_Model_late s m args below meth c H locs 0 0 Q (F0 m 184 ls [.int y7]) := by
          intro y7 H locs hy7 hby7 hP hD hS
          replace hq := hq.trans (bnd_eq hy7)
          try dsimp only at hq
          exact hret y7 (st, upd ck e_ ((ck e_) + 1)) ⟨hq.symm, hby7⟩ _ _ _ _ hby7 hP hD hS d_Model_late_184
        have hv : ((if (st e_) = 3 then (if ((upd ck e_ ((ck e_) + 1)) e_) = 12 then (1) else (if (st e_) = 5 then (if y2 = 0 then (1) else (0)) else (0))) else (if (st e_) = 4 then (if ((upd ck e_ ((ck e_) + 1)) e_) = 12 then (1) else (if (st e_) = 5 then (if y2 = 0 then (1) else (0)) else (0))) else (if (st e_) = 5 then (if y2 = 0 then (1) else (0)) else (0)))) : Int32) = (if (st e_) = 3 then (if ((upd ck e_ ((ck e_) + 1)) e_) = 12 then (1) else (if (st e_) = 5 then (if y2 = 0 then (1) else (0)) else (0))) else (if (st e_) = 4 then (if ((upd ck e_ ((ck e_) + 1)) e_) = 12 then (1) else (if (st e_) = 5 then (if y2 = 0 then (1) else (0)) else (0))) else (if (st e_) = 5 then (if y2 = 0 then (1) else (0)) else (0)))) := rfl
        refine lv_icmp_eq (tgt := 159) hx hb d_Model_late_151 rfl (fun h8 => ?_) (fun h8 => ?_)
        · replace hv := hv.trans (if_pos h8)
          refine lv_aload_n hx hb d_Model_late_159 rfl (lv_at hl 3 rfl) ?_
          refine va_get (D := D) (ci := 7) (v := .ref a_ck) (C := R_Model) (T := F_Model) (N := 28) hx hb hts hin_Model hown hK hP 0 rfl rfl 2 (by decide) (hts _ (xm ww_535)) (fun _ h9 => h9) rfl d_Model_late_160 ?_
          refine lv_iload_n hx hb d_Model_late_163 rfl (lv_at hl 4 rfl) ?_
          refine xiald (k := e_) hx hb hK hP 2 0 rfl rfl rfl he_ (by decide) d_Model_late_164 ?_
          refine lv_bipush (v := 12) hx hb d_Model_late_165 rfl ?_
          refine lv_icmp_eq (tgt := 179) hx hb d_Model_late_167 rfl (fun h9 => ?_) (fun h9 => ?_)
          · replace hv := hv.trans (if_pos h9)
            refine lv_iconst (v := 1) hx hb d_Model_late_179 rfl ?_
            refine lv_goto (tgt := 184) hx hb d_Model_late_180 rfl ?_
            exact J6 _ _ _ hv.symm (Or.inr rfl) hP hD hS
          replace hv := hv.trans (if_neg h9)
          refine lv_iload_n hx hb d_Model_late_170 rfl (lv_at hl 2 rfl) ?_
          refine lv_iconst (v := 5) hx hb d_Model_late_171 rfl ?_
          refine lv_icmp_ne (tgt := 183) hx hb d_Model_late_172 rfl (fun h10 => ?_) (fun h10 => ?_)
          · replace hv := hv.trans (if_neg h10)
            refine lv_iconst (v := 0) hx hb d_Model_late_183 rfl ?_
            exact J6 _ _ _ hv.symm (Or.inl rfl) hP hD hS
          replace hv := hv.trans (if_pos h10)
          refine lv_iload_n hx hb d_Model_late_175 rfl (lv_at hl 1 rfl) ?_
          refine lv_if_ne (tgt := 183) hx hb d_Model_late_176 rfl (fun h11 => ?_) (fun h11 => ?_)
          · replace hv := hv.trans (if_neg h11)
            refine lv_iconst (v := 0) hx hb d_Model_late_183 rfl ?_
            exact J6 _ _ _ hv.symm (Or.inl rfl) hP hD hS
          replace hv := hv.trans (if_pos h11)
          refine lv_iconst (v := 1) hx hb d_Model_late_179 rfl ?_
          refine lv_goto (tgt := 184) hx hb d_Model_late_180 rfl ?_
          exact J6 _ _ _ hv.symm (Or.inr rfl) hP hD hS
        replace hv := hv.trans (if_neg h8)
        refine lv_iload_n hx hb d_Model_late_154 rfl (lv_at hl 2 rfl) ?_
        refine lv_iconst (v := 4) hx hb d_Model_late_155 rfl ?_
        refine lv_icmp_ne (tgt := 170) hx hb d_Model_late_156 rfl (fun h12 => ?_) (fun h12 => ?_)
        · replace hv := hv.trans (if_neg h12)
          refine lv_iload_n hx hb d_Model_late_170 rfl (lv_at hl 2 rfl) ?_
          refine lv_iconst (v := 5) hx hb d_Model_late_171 rfl ?_
          refine lv_icmp_ne (tgt := 183) hx hb d_Model_late_172 rfl (fun h13 => ?_) (fun h13 => ?_)
          · replace hv := hv.trans (if_neg h13)
            refine lv_iconst (v := 0) hx hb d_Model_late_183 rfl ?_
            exact J6 _ _ _ hv.symm (Or.inl rfl) hP hD hS
          replace hv := hv.trans (if_pos h13)
          refine lv_iload_n hx hb d_Model_late_175 rfl (lv_at hl 1 rfl) ?_
          refine lv_if_ne (tgt := 183) hx hb d_Model_late_176 rfl (fun h14 => ?_) (fun h14 => ?_)
          · replace hv := hv.trans (if_neg h14)
            refine lv_iconst (v := 0) hx hb d_Model_late_183 rfl ?_
            exact J6 _ _ _ hv.symm (Or.inl rfl) hP hD hS
          replace hv := hv.trans (if_pos h14)
          refine lv_iconst (v := 1) hx hb d_Model_late_179 rfl ?_
          refine lv_goto (tgt := 184) hx hb d_Model_late_180 rfl ?_
          exact J6 _ _ _ hv.symm (Or.inr rfl) hP hD hS
        replace hv := hv.trans (if_pos h12)
        refine lv_aload_n hx hb d_Model_late_159 rfl (lv_at hl 3 rfl) ?_
        refine va_get (D := D) (ci := 7) (v := .ref a_ck) (C := R_Model) (T := F_Model) (N := 28) hx hb hts hin_Model hown hK hP 0 rfl rfl 2 (by decide) (hts _ (xm ww_535)) (fun _ h9 => h9) rfl d_Model_late_160 ?_
        refine lv_iload_n hx hb d_Model_late_163 rfl (lv_at hl 4 rfl) ?_
        refine xiald (k := e_) hx hb hK hP 2 0 rfl rfl rfl he_ (by decide) d_Model_late_164 ?_
        refine lv_bipush (v := 12) hx hb d_Model_late_165 rfl ?_
        refine lv_icmp_eq (tgt := 179) hx hb d_Model_late_167 rfl (fun h15 => ?_) (fun h15 => ?_)
        · replace hv := hv.trans (if_pos h15)
          refine lv_iconst (v := 1) hx hb d_Model_late_179 rfl ?_
          refine lv_goto (tgt := 184) hx hb d_Model_late_180 rfl ?_
          exact J6 _ _ _ hv.symm (Or.inr rfl) hP hD hS
        replace hv := hv.trans (if_neg h15)
        refine lv_iload_n hx hb d_Model_late_170 rfl (lv_at hl 2 rfl) ?_
        refine lv_iconst (v := 5) hx hb d_Model_late_171 rfl ?_
        refine lv_icmp_ne (tgt := 183) hx hb d_Model_late_172 rfl (fun h16 => ?_) (fun h16 => ?_)
        · replace hv := hv.trans (if_neg h16)
          refine lv_iconst (v := 0) hx hb d_Model_late_183 rfl ?_
          exact J6 _ _ _ hv.symm (Or.inl rfl) hP hD hS
        replace hv := hv.trans (if_pos h16)
        refine lv_iload_n hx hb d_Model_late_175 rfl (lv_at hl 1 rfl) ?_
        refine lv_if_ne (tgt := 183) hx hb d_Model_late_176 rfl (fun h17 => ?_) (fun h17 => ?_)
        · replace hv := hv.trans (if_neg h17)
          refine lv_iconst (v := 0) hx hb d_Model_late_183 rfl ?_
          exact J6 _ _ _ hv.symm (Or.inl rfl) hP hD hS
        replace hv := hv.trans (if_pos h17)
        refine lv_iconst (v := 1) hx hb d_Model_late_179 rfl ?_
        refine lv_goto (tgt := 184) hx hb d_Model_late_180 rfl ?_
        exact J6 _ _ _ hv.symm (Or.inr rfl) hP hD hS
      replace hq := hq.trans (if_neg h5)
      refine lv_aload_n hx hb d_Model_late_130 rfl (lv_at hl 3 rfl) ?_
      refine va_get (D := D) (ci := 7) (v := .ref a_st) (C := R_Model) (T := F_Model) (N := 28) hx hb hts hin_Model hown hK hP 0 rfl rfl 1 (by decide) (hts _ (xm ww_534)) (fun _ h9 => h9) rfl d_Model_late_131 ?_
      refine lv_iload_n hx hb d_Model_late_134 rfl (lv_at hl 4 rfl) ?_
      refine lv_dup2_11 hx hb d_Model_late_135 rfl rfl ?_
      refine xiald (k := e_) hx hb hK hP 1 0 rfl rfl rfl he_ (by decide) d_Model_late_136 ?_
      refine lv_iconst (v := 1) hx hb d_Model_late_137 rfl ?_
      refine lv_iadd hx hb d_Model_late_138 ?_
      refine xiast (k := e_) hx hb hK hP hD hS 1 0 rfl rfl rfl he_ (by decide) d_Model_late_139 (fun H locs hP hD hS => ?_)
      replace hP : va_P D vwCl [(h0, .inr (7, [.int tg, .ref a_st, .ref a_ck, .ref a_en, .ref a_au, .ref a_he, .ref a_qu, .ref a_lo, .ref a_ow, .ref a_fl, .ref a_ti, .ref a_gd, .ref a_ak, .ref a_sp, .ref a_se, .ref a_sd, .ref a_rw, .ref a_sz, .ref a_op, .ref a_th, .ref a_me, .ref a_pk, .int (nI kc), .int cm, .int su, .ref a_re, .int (nI kq), .ref a_dr])), (a_st, .inl (cI, 2, .inl (upd st e_ ((st e_) + 1)))), (a_ck, .inl (cI, 2, .inl (upd ck e_ ((ck e_) + 1)))), (a_en, .inl (cZ, 2, .inl en)), (a_au, .inl (cZ, 2, .inl au)), (a_he, .inl (cZ, 2, .inl he))] H := hP
      replace hD : va_D A [(h0, .inr (7, [.int tg, .ref a_st, .ref a_ck, .ref a_en, .ref a_au, .ref a_he, .ref a_qu, .ref a_lo, .ref a_ow, .ref a_fl, .ref a_ti, .ref a_gd, .ref a_ak, .ref a_sp, .ref a_se, .ref a_sd, .ref a_rw, .ref a_sz, .ref a_op, .ref a_th, .ref a_me, .ref a_pk, .int (nI kc), .int cm, .int su, .ref a_re, .int (nI kq), .ref a_dr])), (a_st, .inl (cI, 2, .inl (upd st e_ ((st e_) + 1)))), (a_ck, .inl (cI, 2, .inl (upd ck e_ ((ck e_) + 1)))), (a_en, .inl (cZ, 2, .inl en)), (a_au, .inl (cZ, 2, .inl au)), (a_he, .inl (cZ, 2, .inl he))] := hD
      refine lv_aload_n hx hb d_Model_late_140 rfl (lv_at hl 3 rfl) ?_
      refine va_get (D := D) (ci := 7) (v := .ref a_ck) (C := R_Model) (T := F_Model) (N := 28) hx hb hts hin_Model hown hK hP 0 rfl rfl 2 (by decide) (hts _ (xm ww_535)) (fun _ h9 => h9) rfl d_Model_late_141 ?_
      refine lv_iload_n hx hb d_Model_late_144 rfl (lv_at hl 4 rfl) ?_
      refine lv_iconst (v := 0) hx hb d_Model_late_145 rfl ?_
      refine xiast (k := e_) hx hb hK hP hD hS 2 0 rfl rfl rfl he_ (by decide) d_Model_late_146 (fun H locs hP hD hS => ?_)
      replace hP : va_P D vwCl [(h0, .inr (7, [.int tg, .ref a_st, .ref a_ck, .ref a_en, .ref a_au, .ref a_he, .ref a_qu, .ref a_lo, .ref a_ow, .ref a_fl, .ref a_ti, .ref a_gd, .ref a_ak, .ref a_sp, .ref a_se, .ref a_sd, .ref a_rw, .ref a_sz, .ref a_op, .ref a_th, .ref a_me, .ref a_pk, .int (nI kc), .int cm, .int su, .ref a_re, .int (nI kq), .ref a_dr])), (a_st, .inl (cI, 2, .inl (upd st e_ ((st e_) + 1)))), (a_ck, .inl (cI, 2, .inl (upd (upd ck e_ ((ck e_) + 1)) e_ 0))), (a_en, .inl (cZ, 2, .inl en)), (a_au, .inl (cZ, 2, .inl au)), (a_he, .inl (cZ, 2, .inl he))] H := hP
      replace hD : va_D A [(h0, .inr (7, [.int tg, .ref a_st, .ref a_ck, .ref a_en, .ref a_au, .ref a_he, .ref a_qu, .ref a_lo, .ref a_ow, .ref a_fl, .ref a_ti, .ref a_gd, .ref a_ak, .ref a_sp, .ref a_se, .ref a_sd, .ref a_rw, .ref a_sz, .ref a_op, .ref a_th, .ref a_me, .ref a_pk, .int (nI kc), .int cm, .int su, .ref a_re, .int (nI kq), .ref a_dr])), (a_st, .inl (cI, 2, .inl (upd st e_ ((st e_) + 1)))), (a_ck, .inl (cI, 2, .inl (upd (upd ck e_ ((ck e_) + 1)) e_ 0))), (a_en, .inl (cZ, 2, .inl en)), (a_au, .inl (cZ, 2, .inl au)), (a_he, .inl (cZ, 2, .inl he))] := hD
      refine lv_iconst (v := 0) hx hb d_Model_late_147 rfl ?_
      exact hret 0 (upd st e_ ((st e_) + 1), upd (upd ck e_ ((ck e_) + 1)) e_ 0) ⟨hq.symm, (Or.inl rfl)⟩ _ _ _ _ (Or.inl rfl) hP hD hS d_Model_late_148
    have hv : ((if (st e_) = 0 then (if ((upd ck e_ ((ck e_) + 1)) e_) = 6 then (1) else (if (st e_) = 1 then (if ((upd ck e_ ((ck e_) + 1)) e_) = 12 then (1) else (if (st e_) = 2 then (if (en e_) = 0 then (if (au e_) = 0 then (if (st e_) = 3 then (if (he e_) = 0 then (0) else (1)) else (0)) else (if (he e_) = 0 then (if (st e_) = 3 then (if (he e_) = 0 then (0) else (1)) else (0)) else (1))) else (1)) else (if (st e_) = 3 then (if (he e_) = 0 then (0) else (1)) else (0)))) else (if (st e_) = 2 then (if (en e_) = 0 then (if (au e_) = 0 then (if (st e_) = 3 then (if (he e_) = 0 then (0) else (1)) else (0)) else (if (he e_) = 0 then (if (st e_) = 3 then (if (he e_) = 0 then (0) else (1)) else (0)) else (1))) else (1)) else (if (st e_) = 3 then (if (he e_) = 0 then (0) else (1)) else (0))))) else (if (st e_) = 1 then (if ((upd ck e_ ((ck e_) + 1)) e_) = 12 then (1) else (if (st e_) = 2 then (if (en e_) = 0 then (if (au e_) = 0 then (if (st e_) = 3 then (if (he e_) = 0 then (0) else (1)) else (0)) else (if (he e_) = 0 then (if (st e_) = 3 then (if (he e_) = 0 then (0) else (1)) else (0)) else (1))) else (1)) else (if (st e_) = 3 then (if (he e_) = 0 then (0) else (1)) else (0)))) else (if (st e_) = 2 then (if (en e_) = 0 then (if (au e_) = 0 then (if (st e_) = 3 then (if (he e_) = 0 then (0) else (1)) else (0)) else (if (he e_) = 0 then (if (st e_) = 3 then (if (he e_) = 0 then (0) else (1)) else (0)) else (1))) else (1)) else (if (st e_) = 3 then (if (he e_) = 0 then (0) else (1)) else (0))))) : Int32) = (if (st e_) = 0 then (if ((upd ck e_ ((ck e_) + 1)) e_) = 6 then (1) else (if (st e_) = 1 then (if ((upd ck e_ ((ck e_) + 1)) e_) = 12 then (1) else (if (st e_) = 2 then (if (en e_) = 0 then (if (au e_) = 0 then (if (st e_) = 3 then (if (he e_) = 0 then (0) else (1)) else (0)) else (if (he e_) = 0 then (if (st e_) = 3 then (if (he e_) = 0 then (0) else (1)) else (0)) else (1))) else (1)) else (if (st e_) = 3 then (if (he e_) = 0 then (0) else (1)) else (0)))) else (if (st e_) = 2 then (if (en e_) = 0 then (if (au e_) = 0 then (if (st e_) = 3 then (if (he e_) = 0 then (0) else (1)) else (0)) else (if (he e_) = 0 then (if (st e_) = 3 then (if (he e_) = 0 then (0) else (1)) else (0)) else (1))) else (1)) else (if (st e_) = 3 then (if (he e_) = 0 then (0) else (1)) else (0))))) else (if (st e_) = 1 then (if ((upd ck e_ ((ck e_) + 1)) e_) = 12 then (1) else (if (st e_) = 2 then (if (en e_) = 0 then (if (au e_) = 0 then (if (st e_) = 3 then (if (he e_) = 0 then (0) else (1)) else (0)) else (if (he e_) = 0 then (if (st e_) = 3 then (if (he e_) = 0 then (0) else (1)) else (0)) else (1))) else (1)) else (if (st e_) = 3 then (if (he e_) = 0 then (0) else (1)) else (0)))) else (if (st e_) = 2 then (if (en e_) = 0 then (if (au e_) = 0 then (if (st e_) = 3 then (if (he e_) = 0 then (0) else (1)) else (0)) else (if (he e_) = 0 then (if (st e_) = 3 then (if (he e_) = 0 then (0) else (1)) else (0)) else (1))) else (1)) else (if (st e_) = 3 then (if (he e_) = 0 then (0) else (1)) else (0))))) := rfl
    refine lv_if_ne (tgt := 56) hx hb d_Model_late_42 rfl (fun h18 => ?_) (fun h18 => ?_)
    · replace hv := hv.trans (if_neg h18)
      refine lv_iload_n hx hb d_Model_late_56 rfl (lv_at hl 1 rfl) ?_
      refine lv_iconst (v := 1) hx hb d_Model_late_57 rfl ?_
      refine lv_icmp_ne (tgt := 72) hx hb d_Model_late_58 rfl (fun h19 => ?_) (fun h19 => ?_)
      · replace hv := hv.trans (if_neg h19)
        refine lv_iload_n hx hb d_Model_late_72 rfl (lv_at hl 1 rfl) ?_
        refine lv_iconst (v := 2) hx hb d_Model_late_73 rfl ?_
        refine lv_icmp_ne (tgt := 104) hx hb d_Model_late_74 rfl (fun h20 => ?_) (fun h20 => ?_)
        · replace hv := hv.trans (if_neg h20)
          refine lv_iload_n hx hb d_Model_late_104 rfl (lv_at hl 1 rfl) ?_
          refine lv_iconst (v := 3) hx hb d_Model_late_105 rfl ?_
          refine lv_icmp_ne (tgt := 122) hx hb d_Model_late_106 rfl (fun h21 => ?_) (fun h21 => ?_)
          · replace hv := hv.trans (if_neg h21)
            refine lv_iconst (v := 0) hx hb d_Model_late_122 rfl ?_
            exact J3 _ _ _ hv.symm (Or.inl rfl) hP hD hS
          replace hv := hv.trans (if_pos h21)
          refine lv_aload_n hx hb d_Model_late_109 rfl (lv_at hl 2 rfl) ?_
          refine va_get (D := D) (ci := 7) (v := .ref a_he) (C := R_Model) (T := F_Model) (N := 28) hx hb hts hin_Model hown hK hP 0 rfl rfl 5 (by decide) (hts _ (xm ww_538)) (fun _ h9 => h9) rfl d_Model_late_110 ?_
          refine lv_iload_n hx hb d_Model_late_113 rfl (lv_at hl 3 rfl) ?_
          refine xzald (k := e_) hx hb hK hP 5 1 rfl rfl rfl he_ (by decide) d_Model_late_114 ?_
          refine lv_if_eq (tgt := 122) hx hb d_Model_late_115 rfl (fun h22 => ?_) (fun h22 => ?_)
          · replace hv := hv.trans (if_pos h22)
            refine lv_iconst (v := 0) hx hb d_Model_late_122 rfl ?_
            exact J3 _ _ _ hv.symm (Or.inl rfl) hP hD hS
          replace hv := hv.trans (if_neg h22)
          refine lv_iconst (v := 1) hx hb d_Model_late_118 rfl ?_
          refine lv_goto (tgt := 123) hx hb d_Model_late_119 rfl ?_
          exact J3 _ _ _ hv.symm (Or.inr rfl) hP hD hS
        replace hv := hv.trans (if_pos h20)
        refine lv_aload_n hx hb d_Model_late_77 rfl (lv_at hl 2 rfl) ?_
        refine va_get (D := D) (ci := 7) (v := .ref a_en) (C := R_Model) (T := F_Model) (N := 28) hx hb hts hin_Model hown hK hP 0 rfl rfl 3 (by decide) (hts _ (xm ww_536)) (fun _ h9 => h9) rfl d_Model_late_78 ?_
        refine lv_iload_n hx hb d_Model_late_81 rfl (lv_at hl 3 rfl) ?_
        refine xzald (k := e_) hx hb hK hP 3 1 rfl rfl rfl he_ (by decide) d_Model_late_82 ?_
        refine lv_if_ne (tgt := 118) hx hb d_Model_late_83 rfl (fun h23 => ?_) (fun h23 => ?_)
        · replace hv := hv.trans (if_neg h23)
          refine lv_iconst (v := 1) hx hb d_Model_late_118 rfl ?_
          refine lv_goto (tgt := 123) hx hb d_Model_late_119 rfl ?_
          exact J3 _ _ _ hv.symm (Or.inr rfl) hP hD hS
        replace hv := hv.trans (if_pos h23)
        refine lv_aload_n hx hb d_Model_late_86 rfl (lv_at hl 2 rfl) ?_
        refine va_get (D := D) (ci := 7) (v := .ref a_au) (C := R_Model) (T := F_Model) (N := 28) hx hb hts hin_Model hown hK hP 0 rfl rfl 4 (by decide) (hts _ (xm ww_537)) (fun _ h9 => h9) rfl d_Model_late_87 ?_
        refine lv_iload_n hx hb d_Model_late_90 rfl (lv_at hl 3 rfl) ?_
        refine xzald (k := e_) hx hb hK hP 4 1 rfl rfl rfl he_ (by decide) d_Model_late_91 ?_
        refine lv_if_eq (tgt := 104) hx hb d_Model_late_92 rfl (fun h24 => ?_) (fun h24 => ?_)
        · replace hv := hv.trans (if_pos h24)
          refine lv_iload_n hx hb d_Model_late_104 rfl (lv_at hl 1 rfl) ?_
          refine lv_iconst (v := 3) hx hb d_Model_late_105 rfl ?_
          refine lv_icmp_ne (tgt := 122) hx hb d_Model_late_106 rfl (fun h25 => ?_) (fun h25 => ?_)
          · replace hv := hv.trans (if_neg h25)
            refine lv_iconst (v := 0) hx hb d_Model_late_122 rfl ?_
            exact J3 _ _ _ hv.symm (Or.inl rfl) hP hD hS
          replace hv := hv.trans (if_pos h25)
          refine lv_aload_n hx hb d_Model_late_109 rfl (lv_at hl 2 rfl) ?_
          refine va_get (D := D) (ci := 7) (v := .ref a_he) (C := R_Model) (T := F_Model) (N := 28) hx hb hts hin_Model hown hK hP 0 rfl rfl 5 (by decide) (hts _ (xm ww_538)) (fun _ h9 => h9) rfl d_Model_late_110 ?_
          refine lv_iload_n hx hb d_Model_late_113 rfl (lv_at hl 3 rfl) ?_
          refine xzald (k := e_) hx hb hK hP 5 1 rfl rfl rfl he_ (by decide) d_Model_late_114 ?_
          refine lv_if_eq (tgt := 122) hx hb d_Model_late_115 rfl (fun h26 => ?_) (fun h26 => ?_)
          · replace hv := hv.trans (if_pos h26)
            refine lv_iconst (v := 0) hx hb d_Model_late_122 rfl ?_
            exact J3 _ _ _ hv.symm (Or.inl rfl) hP hD hS
          replace hv := hv.trans (if_neg h26)
          refine lv_iconst (v := 1) hx hb d_Model_late_118 rfl ?_
          refine lv_goto (tgt := 123) hx hb d_Model_late_119 rfl ?_
          exact J3 _ _ _ hv.symm (Or.inr rfl) hP hD hS
        replace hv := hv.trans (if_neg h24)
        refine lv_aload_n hx hb d_Model_late_95 rfl (lv_at hl 2 rfl) ?_
        refine va_get (D := D) (ci := 7) (v := .ref a_he) (C := R_Model) (T := F_Model) (N := 28) hx hb hts hin_Model hown hK hP 0 rfl rfl 5 (by decide) (hts _ (xm ww_538)) (fun _ h9 => h9) rfl d_Model_late_96 ?_
        refine lv_iload_n hx hb d_Model_late_99 rfl (lv_at hl 3 rfl) ?_
        refine xzald (k := e_) hx hb hK hP 5 1 rfl rfl rfl he_ (by decide) d_Model_late_100 ?_
        refine lv_if_ne (tgt := 118) hx hb d_Model_late_101 rfl (fun h27 => ?_) (fun h27 => ?_)
        · replace hv := hv.trans (if_neg h27)
          refine lv_iconst (v := 1) hx hb d_Model_late_118 rfl ?_
          refine lv_goto (tgt := 123) hx hb d_Model_late_119 rfl ?_
          exact J3 _ _ _ hv.symm (Or.inr rfl) hP hD hS
        replace hv := hv.trans (if_pos h27)
        refine lv_iload_n hx hb d_Model_late_104 rfl (lv_at hl 1 rfl) ?_
        refine lv_iconst (v := 3) hx hb d_Model_late_105 rfl ?_
        refine lv_icmp_ne (tgt := 122) hx hb d_Model_late_106 rfl (fun h28 => ?_) (fun h28 => ?_)
        · replace hv := hv.trans (if_neg h28)
          refine lv_iconst (v := 0) hx hb d_Model_late_122 rfl ?_
          exact J3 _ _ _ hv.symm (Or.inl rfl) hP hD hS
        replace hv := hv.trans (if_pos h28)
        refine lv_aload_n hx hb d_Model_late_109 rfl (lv_at hl 2 rfl) ?_
        refine va_get (D := D) (ci := 7) (v := .ref a_he) (C := R_Model) (T := F_Model) (N := 28) hx hb hts hin_Model hown hK hP 0 rfl rfl 5 (by decide) (hts _ (xm ww_538)) (fun _ h9 => h9) rfl d_Model_late_110 ?_
        refine lv_iload_n hx hb d_Model_late_113 rfl (lv_at hl 3 rfl) ?_
        refine xzald (k := e_) hx hb hK hP 5 1 rfl rfl rfl he_ (by decide) d_Model_late_114 ?_
        refine lv_if_eq (tgt := 122) hx hb d_Model_late_115 rfl (fun h29 => ?_) (fun h29 => ?_)
        · replace hv := hv.trans (if_pos h29)
          refine lv_iconst (v := 0) hx hb d_Model_late_122 rfl ?_
          exact J3 _ _ _ hv.symm (Or.inl rfl) hP hD hS
        replace hv := hv.trans (if_neg h29)
        refine lv_iconst (v := 1) hx hb d_Model_late_118 rfl ?_
        refine lv_goto (tgt := 123) hx hb d_Model_late_119 rfl ?_
        exact J3 _ _ _ hv.symm (Or.inr rfl) hP hD hS
      replace hv := hv.trans (if_pos h19)
      refine lv_aload_n hx hb d_Model_late_61 rfl (lv_at hl 2 rfl) ?_
      refine va_get (D := D) (ci := 7) (v := .ref a_ck) (C := R_Model) (T := F_Model) (N := 28) hx hb hts hin_Model hown hK hP 0 rfl rfl 2 (by decide) (hts _ (xm ww_535)) (fun _ h9 => h9) rfl d_Model_late_62 ?_
      refine lv_iload_n hx hb d_Model_late_65 rfl (lv_at hl 3 rfl) ?_
      refine xiald (k := e_) hx hb hK hP 2 0 rfl rfl rfl he_ (by decide) d_Model_late_66 ?_
      refine lv_bipush (v := 12) hx hb d_Model_late_67 rfl ?_
      refine lv_icmp_eq (tgt := 118) hx hb d_Model_late_69 rfl (fun h30 => ?_) (fun h30 => ?_)
      · replace hv := hv.trans (if_pos h30)
        refine lv_iconst (v := 1) hx hb d_Model_late_118 rfl ?_
        refine lv_goto (tgt := 123) hx hb d_Model_late_119 rfl ?_
        exact J3 _ _ _ hv.symm (Or.inr rfl) hP hD hS
      replace hv := hv.trans (if_neg h30)
      refine lv_iload_n hx hb d_Model_late_72 rfl (lv_at hl 1 rfl) ?_
      refine lv_iconst (v := 2) hx hb d_Model_late_73 rfl ?_
      refine lv_icmp_ne (tgt := 104) hx hb d_Model_late_74 rfl (fun h31 => ?_) (fun h31 => ?_)
      · replace hv := hv.trans (if_neg h31)
        refine lv_iload_n hx hb d_Model_late_104 rfl (lv_at hl 1 rfl) ?_
        refine lv_iconst (v := 3) hx hb d_Model_late_105 rfl ?_
        refine lv_icmp_ne (tgt := 122) hx hb d_Model_late_106 rfl (fun h32 => ?_) (fun h32 => ?_)
        · replace hv := hv.trans (if_neg h32)
          refine lv_iconst (v := 0) hx hb d_Model_late_122 rfl ?_
          exact J3 _ _ _ hv.symm (Or.inl rfl) hP hD hS
        replace hv := hv.trans (if_pos h32)
        refine lv_aload_n hx hb d_Model_late_109 rfl (lv_at hl 2 rfl) ?_
        refine va_get (D := D) (ci := 7) (v := .ref a_he) (C := R_Model) (T := F_Model) (N := 28) hx hb hts hin_Model hown hK hP 0 rfl rfl 5 (by decide) (hts _ (xm ww_538)) (fun _ h9 => h9) rfl d_Model_late_110 ?_
        refine lv_iload_n hx hb d_Model_late_113 rfl (lv_at hl 3 rfl) ?_
        refine xzald (k := e_) hx hb hK hP 5 1 rfl rfl rfl he_ (by decide) d_Model_late_114 ?_
        refine lv_if_eq (tgt := 122) hx hb d_Model_late_115 rfl (fun h33 => ?_) (fun h33 => ?_)
        · replace hv := hv.trans (if_pos h33)
          refine lv_iconst (v := 0) hx hb d_Model_late_122 rfl ?_
          exact J3 _ _ _ hv.symm (Or.inl rfl) hP hD hS
        replace hv := hv.trans (if_neg h33)
        refine lv_iconst (v := 1) hx hb d_Model_late_118 rfl ?_
        refine lv_goto (tgt := 123) hx hb d_Model_late_119 rfl ?_
        exact J3 _ _ _ hv.symm (Or.inr rfl) hP hD hS
      replace hv := hv.trans (if_pos h31)
      refine lv_aload_n hx hb d_Model_late_77 rfl (lv_at hl 2 rfl) ?_
      refine va_get (D := D) (ci := 7) (v := .ref a_en) (C := R_Model) (T := F_Model) (N := 28) hx hb hts hin_Model hown hK hP 0 rfl rfl 3 (by decide) (hts _ (xm ww_536)) (fun _ h9 => h9) rfl d_Model_late_78 ?_
      refine lv_iload_n hx hb d_Model_late_81 rfl (lv_at hl 3 rfl) ?_
      refine xzald (k := e_) hx hb hK hP 3 1 rfl rfl rfl he_ (by decide) d_Model_late_82 ?_
      refine lv_if_ne (tgt := 118) hx hb d_Model_late_83 rfl (fun h34 => ?_) (fun h34 => ?_)
      · replace hv := hv.trans (if_neg h34)
        refine lv_iconst (v := 1) hx hb d_Model_late_118 rfl ?_
        refine lv_goto (tgt := 123) hx hb d_Model_late_119 rfl ?_
        exact J3 _ _ _ hv.symm (Or.inr rfl) hP hD hS
      replace hv := hv.trans (if_pos h34)
      refine lv_aload_n hx hb d_Model_late_86 rfl (lv_at hl 2 rfl) ?_
      refine va_get (D := D) (ci := 7) (v := .ref a_au) (C := R_Model) (T := F_Model) (N := 28) hx hb hts hin_Model hown hK hP 0 rfl rfl 4 (by decide) (hts _ (xm ww_537)) (fun _ h9 => h9) rfl d_Model_late_87 ?_
      refine lv_iload_n hx hb d_Model_late_90 rfl (lv_at hl 3 rfl) ?_
      refine xzald (k := e_) hx hb hK hP 4 1 rfl rfl rfl he_ (by decide) d_Model_late_91 ?_
      refine lv_if_eq (tgt := 104) hx hb d_Model_late_92 rfl (fun h35 => ?_) (fun h35 => ?_)
      · replace hv := hv.trans (if_pos h35)
        refine lv_iload_n hx hb d_Model_late_104 rfl (lv_at hl 1 rfl) ?_
        refine lv_iconst (v := 3) hx hb d_Model_late_105 rfl ?_
        refine lv_icmp_ne (tgt := 122) hx hb d_Model_late_106 rfl (fun h36 => ?_) (fun h36 => ?_)
        · replace hv := hv.trans (if_neg h36)
          refine lv_iconst (v := 0) hx hb d_Model_late_122 rfl ?_
          exact J3 _ _ _ hv.symm (Or.inl rfl) hP hD hS
        replace hv := hv.trans (if_pos h36)
        refine lv_aload_n hx hb d_Model_late_109 rfl (lv_at hl 2 rfl) ?_
        refine va_get (D := D) (ci := 7) (v := .ref a_he) (C := R_Model) (T := F_Model) (N := 28) hx hb hts hin_Model hown hK hP 0 rfl rfl 5 (by decide) (hts _ (xm ww_538)) (fun _ h9 => h9) rfl d_Model_late_110 ?_
        refine lv_iload_n hx hb d_Model_late_113 rfl (lv_at hl 3 rfl) ?_
        refine xzald (k := e_) hx hb hK hP 5 1 rfl rfl rfl he_ (by decide) d_Model_late_114 ?_
        refine lv_if_eq (tgt := 122) hx hb d_Model_late_115 rfl (fun h37 => ?_) (fun h37 => ?_)
        · replace hv := hv.trans (if_pos h37)
          refine lv_iconst (v := 0) hx hb d_Model_late_122 rfl ?_
          exact J3 _ _ _ hv.symm (Or.inl rfl) hP hD hS
        replace hv := hv.trans (if_neg h37)
        refine lv_iconst (v := 1) hx hb d_Model_late_118 rfl ?_
        refine lv_goto (tgt := 123) hx hb d_Model_late_119 rfl ?_
        exact J3 _ _ _ hv.symm (Or.inr rfl) hP hD hS
      replace hv := hv.trans (if_neg h35)
      refine lv_aload_n hx hb d_Model_late_95 rfl (lv_at hl 2 rfl) ?_
      refine va_get (D := D) (ci := 7) (v := .ref a_he) (C := R_Model) (T := F_Model) (N := 28) hx hb hts hin_Model hown hK hP 0 rfl rfl 5 (by decide) (hts _ (xm ww_538)) (fun _ h9 => h9) rfl d_Model_late_96 ?_
      refine lv_iload_n hx hb d_Model_late_99 rfl (lv_at hl 3 rfl) ?_
      refine xzald (k := e_) hx hb hK hP 5 1 rfl rfl rfl he_ (by decide) d_Model_late_100 ?_
      refine lv_if_ne (tgt := 118) hx hb d_Model_late_101 rfl (fun h38 => ?_) (fun h38 => ?_)
      · replace hv := hv.trans (if_neg h38)
        refine lv_iconst (v := 1) hx hb d_Model_late_118 rfl ?_
        refine lv_goto (tgt := 123) hx hb d_Model_late_119 rfl ?_
        exact J3 _ _ _ hv.symm (Or.inr rfl) hP hD hS
      replace hv := hv.trans (if_pos h38)
      refine lv_iload_n hx hb d_Model_late_104 rfl (lv_at hl 1 rfl) ?_
      refine lv_iconst (v := 3) hx hb d_Model_late_105 rfl ?_
      refine lv_icmp_ne (tgt := 122) hx hb d_Model_late_106 rfl (fun h39 => ?_) (fun h39 => ?_)
      · replace hv := hv.trans (if_neg h39)
        refine lv_iconst (v := 0) hx hb d_Model_late_122 rfl ?_
        exact J3 _ _ _ hv.symm (Or.inl rfl) hP hD hS
      replace hv := hv.trans (if_pos h39)
      refine lv_aload_n hx hb d_Model_late_109 rfl (lv_at hl 2 rfl) ?_
      refine va_get (D := D) (ci := 7) (v := .ref a_he) (C := R_Model) (T := F_Model) (N := 28) hx hb hts hin_Model hown hK hP 0 rfl rfl 5 (by decide) (hts _ (xm ww_538)) (fun _ h9 => h9) rfl d_Model_late_110 ?_
      refine lv_iload_n hx hb d_Model_late_113 rfl (lv_at hl 3 rfl) ?_
      refine xzald (k := e_) hx hb hK hP 5 1 rfl rfl rfl he_ (by decide) d_Model_late_114 ?_
      refine lv_if_eq (tgt := 122) hx hb d_Model_late_115 rfl (fun h40 => ?_) (fun h40 => ?_)
      · replace hv := hv.trans (if_pos h40)
        refine lv_iconst (v := 0) hx hb d_Model_late_122 rfl ?_
        exact J3 _ _ _ hv.symm (Or.inl rfl) hP hD hS
      replace hv := hv.trans (if_neg h40)
      refine lv_iconst (v := 1) hx hb d_Model_late_118 rfl ?_
      refine lv_goto (tgt := 123) hx hb d_Model_late_119 rfl ?_
      exact J3 _ _ _ hv.symm (Or.inr rfl) hP hD hS
    replace hv := hv.trans (if_pos h18)
    refine lv_aload_n hx hb d_Model_late_45 rfl (lv_at hl 2 rfl) ?_
    refine va_get (D := D) (ci := 7) (v := .ref a_ck) (C := R_Model) (T := F_Model) (N := 28) hx hb hts hin_Model hown hK hP 0 rfl rfl 2 (by decide) (hts _ (xm ww_535)) (fun _ h9 => h9) rfl d_Model_late_46 ?_
    refine lv_iload_n hx hb d_Model_late_49 rfl (lv_at hl 3 rfl) ?_
    refine xiald (k := e_) hx hb hK hP 2 0 rfl rfl rfl he_ (by decide) d_Model_late_50 ?_
    refine lv_bipush (v := 6) hx hb d_Model_late_51 rfl ?_
    refine lv_icmp_eq (tgt := 118) hx hb d_Model_late_53 rfl (fun h41 => ?_) (fun h41 => ?_)
    · replace hv := hv.trans (if_pos h41)
      refine lv_iconst (v := 1) hx hb d_Model_late_118 rfl ?_
      refine lv_goto (tgt := 123) hx hb d_Model_late_119 rfl ?_
      exact J3 _ _ _ hv.symm (Or.inr rfl) hP hD hS
    replace hv := hv.trans (if_neg h41)
    refine lv_iload_n hx hb d_Model_late_56 rfl (lv_at hl 1 rfl) ?_
    refine lv_iconst (v := 1) hx hb d_Model_late_57 rfl ?_
    refine lv_icmp_ne (tgt := 72) hx hb d_Model_late_58 rfl (fun h42 => ?_) (fun h42 => ?_)
    · replace hv := hv.trans (if_neg h42)
      refine lv_iload_n hx hb d_Model_late_72 rfl (lv_at hl 1 rfl) ?_
      refine lv_iconst (v := 2) hx hb d_Model_late_73 rfl ?_
      refine lv_icmp_ne (tgt := 104) hx hb d_Model_late_74 rfl (fun h43 => ?_) (fun h43 => ?_)
      · replace hv := hv.trans (if_neg h43)
        refine lv_iload_n hx hb d_Model_late_104 rfl (lv_at hl 1 rfl) ?_
        refine lv_iconst (v := 3) hx hb d_Model_late_105 rfl ?_
        refine lv_icmp_ne (tgt := 122) hx hb d_Model_late_106 rfl (fun h44 => ?_) (fun h44 => ?_)
        · replace hv := hv.trans (if_neg h44)
          refine lv_iconst (v := 0) hx hb d_Model_late_122 rfl ?_
          exact J3 _ _ _ hv.symm (Or.inl rfl) hP hD hS
        replace hv := hv.trans (if_pos h44)
        refine lv_aload_n hx hb d_Model_late_109 rfl (lv_at hl 2 rfl) ?_
        refine va_get (D := D) (ci := 7) (v := .ref a_he) (C := R_Model) (T := F_Model) (N := 28) hx hb hts hin_Model hown hK hP 0 rfl rfl 5 (by decide) (hts _ (xm ww_538)) (fun _ h9 => h9) rfl d_Model_late_110 ?_
        refine lv_iload_n hx hb d_Model_late_113 rfl (lv_at hl 3 rfl) ?_
        refine xzald (k := e_) hx hb hK hP 5 1 rfl rfl rfl he_ (by decide) d_Model_late_114 ?_
        refine lv_if_eq (tgt := 122) hx hb d_Model_late_115 rfl (fun h45 => ?_) (fun h45 => ?_)
        · replace hv := hv.trans (if_pos h45)
          refine lv_iconst (v := 0) hx hb d_Model_late_122 rfl ?_
          exact J3 _ _ _ hv.symm (Or.inl rfl) hP hD hS
        replace hv := hv.trans (if_neg h45)
        refine lv_iconst (v := 1) hx hb d_Model_late_118 rfl ?_
        refine lv_goto (tgt := 123) hx hb d_Model_late_119 rfl ?_
        exact J3 _ _ _ hv.symm (Or.inr rfl) hP hD hS
      replace hv := hv.trans (if_pos h43)
      refine lv_aload_n hx hb d_Model_late_77 rfl (lv_at hl 2 rfl) ?_
      refine va_get (D := D) (ci := 7) (v := .ref a_en) (C := R_Model) (T := F_Model) (N := 28) hx hb hts hin_Model hown hK hP 0 rfl rfl 3 (by decide) (hts _ (xm ww_536)) (fun _ h9 => h9) rfl d_Model_late_78 ?_
      refine lv_iload_n hx hb d_Model_late_81 rfl (lv_at hl 3 rfl) ?_
      refine xzald (k := e_) hx hb hK hP 3 1 rfl rfl rfl he_ (by decide) d_Model_late_82 ?_
      refine lv_if_ne (tgt := 118) hx hb d_Model_late_83 rfl (fun h46 => ?_) (fun h46 => ?_)
      · replace hv := hv.trans (if_neg h46)
        refine lv_iconst (v := 1) hx hb d_Model_late_118 rfl ?_
        refine lv_goto (tgt := 123) hx hb d_Model_late_119 rfl ?_
        exact J3 _ _ _ hv.symm (Or.inr rfl) hP hD hS
      replace hv := hv.trans (if_pos h46)
      refine lv_aload_n hx hb d_Model_late_86 rfl (lv_at hl 2 rfl) ?_
      refine va_get (D := D) (ci := 7) (v := .ref a_au) (C := R_Model) (T := F_Model) (N := 28) hx hb hts hin_Model hown hK hP 0 rfl rfl 4 (by decide) (hts _ (xm ww_537)) (fun _ h9 => h9) rfl d_Model_late_87 ?_
      refine lv_iload_n hx hb d_Model_late_90 rfl (lv_at hl 3 rfl) ?_
      refine xzald (k := e_) hx hb hK hP 4 1 rfl rfl rfl he_ (by decide) d_Model_late_91 ?_
      refine lv_if_eq (tgt := 104) hx hb d_Model_late_92 rfl (fun h47 => ?_) (fun h47 => ?_)
      · replace hv := hv.trans (if_pos h47)
        refine lv_iload_n hx hb d_Model_late_104 rfl (lv_at hl 1 rfl) ?_
        refine lv_iconst (v := 3) hx hb d_Model_late_105 rfl ?_
        refine lv_icmp_ne (tgt := 122) hx hb d_Model_late_106 rfl (fun h48 => ?_) (fun h48 => ?_)
        · replace hv := hv.trans (if_neg h48)
          refine lv_iconst (v := 0) hx hb d_Model_late_122 rfl ?_
          exact J3 _ _ _ hv.symm (Or.inl rfl) hP hD hS
        replace hv := hv.trans (if_pos h48)
        refine lv_aload_n hx hb d_Model_late_109 rfl (lv_at hl 2 rfl) ?_
        refine va_get (D := D) (ci := 7) (v := .ref a_he) (C := R_Model) (T := F_Model) (N := 28) hx hb hts hin_Model hown hK hP 0 rfl rfl 5 (by decide) (hts _ (xm ww_538)) (fun _ h9 => h9) rfl d_Model_late_110 ?_
        refine lv_iload_n hx hb d_Model_late_113 rfl (lv_at hl 3 rfl) ?_
        refine xzald (k := e_) hx hb hK hP 5 1 rfl rfl rfl he_ (by decide) d_Model_late_114 ?_
        refine lv_if_eq (tgt := 122) hx hb d_Model_late_115 rfl (fun h49 => ?_) (fun h49 => ?_)
        · replace hv := hv.trans (if_pos h49)
          refine lv_iconst (v := 0) hx hb d_Model_late_122 rfl ?_
          exact J3 _ _ _ hv.symm (Or.inl rfl) hP hD hS
        replace hv := hv.trans (if_neg h49)
        refine lv_iconst (v := 1) hx hb d_Model_late_118 rfl ?_
        refine lv_goto (tgt := 123) hx hb d_Model_late_119 rfl ?_
        exact J3 _ _ _ hv.symm (Or.inr rfl) hP hD hS
      replace hv := hv.trans (if_neg h47)
      refine lv_aload_n hx hb d_Model_late_95 rfl (lv_at hl 2 rfl) ?_
      refine va_get (D := D) (ci := 7) (v := .ref a_he) (C := R_Model) (T := F_Model) (N := 28) hx hb hts hin_Model hown hK hP 0 rfl rfl 5 (by decide) (hts _ (xm ww_538)) (fun _ h9 => h9) rfl d_Model_late_96 ?_
      refine lv_iload_n hx hb d_Model_late_99 rfl (lv_at hl 3 rfl) ?_
      refine xzald (k := e_) hx hb hK hP 5 1 rfl rfl rfl he_ (by decide) d_Model_late_100 ?_
      refine lv_if_ne (tgt := 118) hx hb d_Model_late_101 rfl (fun h50 => ?_) (fun h50 => ?_)
      · replace hv := hv.trans (if_neg h50)
        refine lv_iconst (v := 1) hx hb d_Model_late_118 rfl ?_
        refine lv_goto (tgt := 123) hx hb d_Model_late_119 rfl ?_
        exact J3 _ _ _ hv.symm (Or.inr rfl) hP hD hS
      replace hv := hv.trans (if_pos h50)
      refine lv_iload_n hx hb d_Model_late_104 rfl (lv_at hl 1 rfl) ?_
      refine lv_iconst (v := 3) hx hb d_Model_late_105 rfl ?_
      refine lv_icmp_ne (tgt := 122) hx hb d_Model_late_106 rfl (fun h51 => ?_) (fun h51 => ?_)
      · replace hv := hv.trans (if_neg h51)
        refine lv_iconst (v := 0) hx hb d_Model_late_122 rfl ?_
        exact J3 _ _ _ hv.symm (Or.inl rfl) hP hD hS
      replace hv := hv.trans (if_pos h51)
      refine lv_aload_n hx hb d_Model_late_109 rfl (lv_at hl 2 rfl) ?_
      refine va_get (D := D) (ci := 7) (v := .ref a_he) (C := R_Model) (T := F_Model) (N := 28) hx hb hts hin_Model hown hK hP 0 rfl rfl 5 (by decide) (hts _ (xm ww_538)) (fun _ h9 => h9) rfl d_Model_late_110 ?_
      refine lv_iload_n hx hb d_Model_late_113 rfl (lv_at hl 3 rfl) ?_
      refine xzald (k := e_) hx hb hK hP 5 1 rfl rfl rfl he_ (by decide) d_Model_late_114 ?_
      refine lv_if_eq (tgt := 122) hx hb d_Model_late_115 rfl (fun h52 => ?_) (fun h52 => ?_)
      · replace hv := hv.trans (if_pos h52)
        refine lv_iconst (v := 0) hx hb d_Model_late_122 rfl ?_
        exact J3 _ _ _ hv.symm (Or.inl rfl) hP hD hS
      replace hv := hv.trans (if_neg h52)
      refine lv_iconst (v := 1) hx hb d_Model_late_118 rfl ?_
      refine lv_goto (tgt := 123) hx hb d_Model_late_119 rfl ?_
      exact J3 _ _ _ hv.symm (Or.inr rfl) hP hD hS
    replace hv := hv.trans (if_pos h42)
    refine lv_aload_n hx hb d_Model_late_61 rfl (lv_at hl 2 rfl) ?_
    refine va_get (D := D) (ci := 7) (v := .ref a_ck) (C := R_Model) (T := F_Model) (N := 28) hx hb hts hin_Model hown hK hP 0 rfl rfl 2 (by decide) (hts _ (xm ww_535)) (fun _ h9 => h9) rfl d_Model_late_62 ?_
    refine lv_iload_n hx hb d_Model_late_65 rfl (lv_at hl 3 rfl) ?_
    refine xiald (k := e_) hx hb hK hP 2 0 rfl rfl rfl he_ (by decide) d_Model_late_66 ?_
    refine lv_bipush (v := 12) hx hb d_Model_late_67 rfl ?_
    refine lv_icmp_eq (tgt := 118) hx hb d_Model_late_69 rfl (fun h53 => ?_) (fun h53 => ?_)
    · replace hv := hv.trans (if_pos h53)
      refine lv_iconst (v := 1) hx hb d_Model_late_118 rfl ?_
      refine lv_goto (tgt := 123) hx hb d_Model_late_119 rfl ?_
      exact J3 _ _ _ hv.symm (Or.inr rfl) hP hD hS
    replace hv := hv.trans (if_neg h53)
    refine lv_iload_n hx hb d_Model_late_72 rfl (lv_at hl 1 rfl) ?_
    refine lv_iconst (v := 2) hx hb d_Model_late_73 rfl ?_
    refine lv_icmp_ne (tgt := 104) hx hb d_Model_late_74 rfl (fun h54 => ?_) (fun h54 => ?_)
    · replace hv := hv.trans (if_neg h54)
      refine lv_iload_n hx hb d_Model_late_104 rfl (lv_at hl 1 rfl) ?_
      refine lv_iconst (v := 3) hx hb d_Model_late_105 rfl ?_
      refine lv_icmp_ne (tgt := 122) hx hb d_Model_late_106 rfl (fun h55 => ?_) (fun h55 => ?_)
      · replace hv := hv.trans (if_neg h55)
        refine lv_iconst (v := 0) hx hb d_Model_late_122 rfl ?_
        exact J3 _ _ _ hv.symm (Or.inl rfl) hP hD hS
      replace hv := hv.trans (if_pos h55)
      refine lv_aload_n hx hb d_Model_late_109 rfl (lv_at hl 2 rfl) ?_
      refine va_get (D := D) (ci := 7) (v := .ref a_he) (C := R_Model) (T := F_Model) (N := 28) hx hb hts hin_Model hown hK hP 0 rfl rfl 5 (by decide) (hts _ (xm ww_538)) (fun _ h9 => h9) rfl d_Model_late_110 ?_
      refine lv_iload_n hx hb d_Model_late_113 rfl (lv_at hl 3 rfl) ?_
      refine xzald (k := e_) hx hb hK hP 5 1 rfl rfl rfl he_ (by decide) d_Model_late_114 ?_
      refine lv_if_eq (tgt := 122) hx hb d_Model_late_115 rfl (fun h56 => ?_) (fun h56 => ?_)
      · replace hv := hv.trans (if_pos h56)
        refine lv_iconst (v := 0) hx hb d_Model_late_122 rfl ?_
        exact J3 _ _ _ hv.symm (Or.inl rfl) hP hD hS
      replace hv := hv.trans (if_neg h56)
      refine lv_iconst (v := 1) hx hb d_Model_late_118 rfl ?_
      refine lv_goto (tgt := 123) hx hb d_Model_late_119 rfl ?_
      exact J3 _ _ _ hv.symm (Or.inr rfl) hP hD hS
    replace hv := hv.trans (if_pos h54)
    refine lv_aload_n hx hb d_Model_late_77 rfl (lv_at hl 2 rfl) ?_
    refine va_get (D := D) (ci := 7) (v := .ref a_en) (C := R_Model) (T := F_Model) (N := 28) hx hb hts hin_Model hown hK hP 0 rfl rfl 3 (by decide) (hts _ (xm ww_536)) (fun _ h9 => h9) rfl d_Model_late_78 ?_
    refine lv_iload_n hx hb d_Model_late_81 rfl (lv_at hl 3 rfl) ?_
    refine xzald (k := e_) hx hb hK hP 3 1 rfl rfl rfl he_ (by decide) d_Model_late_82 ?_
    refine lv_if_ne (tgt := 118) hx hb d_Model_late_83 rfl (fun h57 => ?_) (fun h57 => ?_)
    · replace hv := hv.trans (if_neg h57)
      refine lv_iconst (v := 1) hx hb d_Model_late_118 rfl ?_
      refine lv_goto (tgt := 123) hx hb d_Model_late_119 rfl ?_
      exact J3 _ _ _ hv.symm (Or.inr rfl) hP hD hS
    replace hv := hv.trans (if_pos h57)
    refine lv_aload_n hx hb d_Model_late_86 rfl (lv_at hl 2 rfl) ?_
    refine va_get (D := D) (ci := 7) (v := .ref a_au) (C := R_Model) (T := F_Model) (N := 28) hx hb hts hin_Model hown hK hP 0 rfl rfl 4 (by decide) (hts _ (xm ww_537)) (fun _ h9 => h9) rfl d_Model_late_87 ?_
    refine lv_iload_n hx hb d_Model_late_90 rfl (lv_at hl 3 rfl) ?_
    refine xzald (k := e_) hx hb hK hP 4 1 rfl rfl rfl he_ (by decide) d_Model_late_91 ?_
    refine lv_if_eq (tgt := 104) hx hb d_Model_late_92 rfl (fun h58 => ?_) (fun h58 => ?_)
    · replace hv := hv.trans (if_pos h58)
      refine lv_iload_n hx hb d_Model_late_104 rfl (lv_at hl 1 rfl) ?_
      refine lv_iconst (v := 3) hx hb d_Model_late_105 rfl ?_
      refine lv_icmp_ne (tgt := 122) hx hb d_Model_late_106 rfl (fun h59 => ?_) (fun h59 => ?_)
      · replace hv := hv.trans (if_neg h59)
        refine lv_iconst (v := 0) hx hb d_Model_late_122 rfl ?_
        exact J3 _ _ _ hv.symm (Or.inl rfl) hP hD hS
      replace hv := hv.trans (if_pos h59)
      refine lv_aload_n hx hb d_Model_late_109 rfl (lv_at hl 2 rfl) ?_
      refine va_get (D := D) (ci := 7) (v := .ref a_he) (C := R_Model) (T := F_Model) (N := 28) hx hb hts hin_Model hown hK hP 0 rfl rfl 5 (by decide) (hts _ (xm ww_538)) (fun _ h9 => h9) rfl d_Model_late_110 ?_
      refine lv_iload_n hx hb d_Model_late_113 rfl (lv_at hl 3 rfl) ?_
      refine xzald (k := e_) hx hb hK hP 5 1 rfl rfl rfl he_ (by decide) d_Model_late_114 ?_
      refine lv_if_eq (tgt := 122) hx hb d_Model_late_115 rfl (fun h60 => ?_) (fun h60 => ?_)
      · replace hv := hv.trans (if_pos h60)
        refine lv_iconst (v := 0) hx hb d_Model_late_122 rfl ?_
        exact J3 _ _ _ hv.symm (Or.inl rfl) hP hD hS
      replace hv := hv.trans (if_neg h60)
      refine lv_iconst (v := 1) hx hb d_Model_late_118 rfl ?_
      refine lv_goto (tgt := 123) hx hb d_Model_late_119 rfl ?_
      exact J3 _ _ _ hv.symm (Or.inr rfl) hP hD hS
    replace hv := hv.trans (if_neg h58)
    refine lv_aload_n hx hb d_Model_late_95 rfl (lv_at hl 2 rfl) ?_
    refine va_get (D := D) (ci := 7) (v := .ref a_he) (C := R_Model) (T := F_Model) (N := 28) hx hb hts hin_Model hown hK hP 0 rfl rfl 5 (by decide) (hts _ (xm ww_538)) (fun _ h9 => h9) rfl d_Model_late_96 ?_
    refine lv_iload_n hx hb d_Model_late_99 rfl (lv_at hl 3 rfl) ?_
    refine xzald (k := e_) hx hb hK hP 5 1 rfl rfl rfl he_ (by decide) d_Model_late_100 ?_
    refine lv_if_ne (tgt := 118) hx hb d_Model_late_101 rfl (fun h61 => ?_) (fun h61 => ?_)
    · replace hv := hv.trans (if_neg h61)
      refine lv_iconst (v := 1) hx hb d_Model_late_118 rfl ?_
      refine lv_goto (tgt := 123) hx hb d_Model_late_119 rfl ?_
      exact J3 _ _ _ hv.symm (Or.inr rfl) hP hD hS
    replace hv := hv.trans (if_pos h61)
    refine lv_iload_n hx hb d_Model_late_104 rfl (lv_at hl 1 rfl) ?_
    refine lv_iconst (v := 3) hx hb d_Model_late_105 rfl ?_
    refine lv_icmp_ne (tgt := 122) hx hb d_Model_late_106 rfl (fun h62 => ?_) (fun h62 => ?_)
    · replace hv := hv.trans (if_neg h62)
      refine lv_iconst (v := 0) hx hb d_Model_late_122 rfl ?_
      exact J3 _ _ _ hv.symm (Or.inl rfl) hP hD hS
    replace hv := hv.trans (if_pos h62)
    refine lv_aload_n hx hb d_Model_late_109 rfl (lv_at hl 2 rfl) ?_
    refine va_get (D := D) (ci := 7) (v := .ref a_he) (C := R_Model) (T := F_Model) (N := 28) hx hb hts hin_Model hown hK hP 0 rfl rfl 5 (by decide) (hts _ (xm ww_538)) (fun _ h9 => h9) rfl d_Model_late_110 ?_
    refine lv_iload_n hx hb d_Model_late_113 rfl (lv_at hl 3 rfl) ?_
    refine xzald (k := e_) hx hb hK hP 5 1 rfl rfl rfl he_ (by decide) d_Model_late_114 ?_
    refine lv_if_eq (tgt := 122) hx hb d_Model_late_115 rfl (fun h63 => ?_) (fun h63 => ?_)
    · replace hv := hv.trans (if_pos h63)
      refine lv_iconst (v := 0) hx hb d_Model_late_122 rfl ?_
      exact J3 _ _ _ hv.symm (Or.inl rfl) hP hD hS
    replace hv := hv.trans (if_neg h63)
    refine lv_iconst (v := 1) hx hb d_Model_late_118 rfl ?_
    refine lv_goto (tgt := 123) hx hb d_Model_late_119 rfl ?_
    exact J3 _ _ _ hv.symm (Or.inr rfl) hP hD hS
  have hv : ((if (en e_) = 0 then (if (au e_) = 0 then (0) else (1)) else (1)) : Int32) = (if (en e_) = 0 then (if (au e_) = 0 then (0) else (1)) else (1)) := rfl
  refine lv_if_ne (tgt := 35) hx hb d_Model_late_23 rfl (fun h64 => ?_) (fun h64 => ?_)
  · replace hv := hv.trans (if_neg h64)
    refine lv_iconst (v := 1) hx hb d_Model_late_35 rfl ?_
    refine lv_goto (tgt := 40) hx hb d_Model_late_36 rfl ?_
    exact J1 _ _ _ hv.symm (Or.inr rfl) hP hD hS
  replace hv := hv.trans (if_pos h64)
  refine lv_aload_n hx hb d_Model_late_26 rfl (lv_at hl 1 rfl) ?_
  refine va_get (D := D) (ci := 7) (v := .ref a_au) (C := R_Model) (T := F_Model) (N := 28) hx hb hts hin_Model hown hK hP 0 rfl rfl 4 (by decide) (hts _ (xm ww_537)) (fun _ h9 => h9) rfl d_Model_late_27 ?_
  refine lv_iload_n hx hb d_Model_late_30 rfl (lv_at hl 2 rfl) ?_
  refine xzald (k := e_) hx hb hK hP 4 1 rfl rfl rfl he_ (by decide) d_Model_late_31 ?_
  refine lv_if_eq (tgt := 39) hx hb d_Model_late_32 rfl (fun h65 => ?_) (fun h65 => ?_)
  · replace hv := hv.trans (if_pos h65)
    refine lv_iconst (v := 0) hx hb d_Model_late_39 rfl ?_
    exact J1 _ _ _ hv.symm (Or.inl rfl) hP hD hS
  replace hv := hv.trans (if_neg h65)
  refine lv_iconst (v := 1) hx hb d_Model_late_35 rfl ?_
  refine lv_goto (tgt := 40) hx hb d_Model_late_36 rfl ?_
  exact J1 _ _ _ hv.symm (Or.inr rfl) hP hD hS

def s_Model_canLend (ow : Nat → Int32) (Ls : Nat → List Int32) (e_ : Nat) : Int32 := bnd (α := Int32) (if 16 < ((nI ((Ls (2 * e_ + 1)).length)) + (ow e_)) then (0) else (1)) (fun y2 => y2)
abbrev rm_Model_canLend : Room := { frames := 0, cells := 0, slots := 0, locals := 0 }
set_option maxHeartbeats 4000000 in
set_option maxRecDepth 100000 in
theorem c_Model_canLend {l : Launch} {D : va_G} {cI cZ : ClassId} (ow : Nat → Int32) (Ls : Nat → List Int32) (e_ : Nat) (h0 : Nat) (a_st : Nat) (a_ck : Nat) (a_en : Nat) (a_au : Nat) (a_he : Nat) (a_qu : Nat) (a_lo : Nat) (a_ow : Nat) (a_fl : Nat) (a_ti : Nat) (a_gd : Nat) (a_ak : Nat) (a_sp : Nat) (a_se : Nat) (a_sd : Nat) (a_rw : Nat) (a_sz : Nat) (a_op : Nat) (a_th : Nat) (a_me : Nat) (a_pk : Nat) (a_re : Nat) (a_dr : Nat) (tg : Int32) (kc : Nat) (cm : Int32) (su : Int32) (kq : Nat) (he_ : e_ < 2) (sz : Nat) : Met l y_Model_canLend (w_Model_canLend) rm_Model_canLend (va_Pc [.ref h0, .int (nI e_)] (xPre xNs D vwCl cI cZ [(h0, .inr (7, [.int tg, .ref a_st, .ref a_ck, .ref a_en, .ref a_au, .ref a_he, .ref a_qu, .ref a_lo, .ref a_ow, .ref a_fl, .ref a_ti, .ref a_gd, .ref a_ak, .ref a_sp, .ref a_se, .ref a_sd, .ref a_rw, .ref a_sz, .ref a_op, .ref a_th, .ref a_me, .ref a_pk, .int (nI kc), .int cm, .int su, .ref a_re, .int (nI kq), .ref a_dr])), (a_ow, .inl (cI, 2, .inl ow)), (a_sz, .inl (cI, 4, .inl (szf Ls)))] sz)) (va_Qi (fun (r : Int32) (u : Unit) => r = s_Model_canLend ow Ls e_ ∧ xB r) (fun u t9 => xAt D vwCl (va_A [(h0, .inr (7, [.int tg, .ref a_st, .ref a_ck, .ref a_en, .ref a_au, .ref a_he, .ref a_qu, .ref a_lo, .ref a_ow, .ref a_fl, .ref a_ti, .ref a_gd, .ref a_ak, .ref a_sp, .ref a_se, .ref a_sd, .ref a_rw, .ref a_sz, .ref a_op, .ref a_th, .ref a_me, .ref a_pk, .int (nI kc), .int cm, .int su, .ref a_re, .int (nI kq), .ref a_dr])), (a_ow, .inl (cI, 2, .inl ow)), (a_sz, .inl (cI, 4, .inl (szf Ls)))] sz) [(h0, .inr (7, [.int tg, .ref a_st, .ref a_ck, .ref a_en, .ref a_au, .ref a_he, .ref a_qu, .ref a_lo, .ref a_ow, .ref a_fl, .ref a_ti, .ref a_gd, .ref a_ak, .ref a_sp, .ref a_se, .ref a_sd, .ref a_rw, .ref a_sz, .ref a_op, .ref a_th, .ref a_me, .ref a_pk, .int (nI kc), .int cm, .int su, .ref a_re, .int (nI kq), .ref a_dr])), (a_ow, .inl (cI, 2, .inl ow)), (a_sz, .inl (cI, 4, .inl (szf Ls)))] t9) (va_A [(h0, .inr (7, [.int tg, .ref a_st, .ref a_ck, .ref a_en, .ref a_au, .ref a_he, .ref a_qu, .ref a_lo, .ref a_ow, .ref a_fl, .ref a_ti, .ref a_gd, .ref a_ak, .ref a_sp, .ref a_se, .ref a_sd, .ref a_rw, .ref a_sz, .ref a_op, .ref a_th, .ref a_me, .ref a_pk, .int (nI kc), .int cm, .int su, .ref a_re, .int (nI kq), .ref a_dr])), (a_ow, .inl (cI, 2, .inl ow)), (a_sz, .inl (cI, 4, .inl (szf Ls)))] sz)) 0 0 (va_A [(h0, .inr (7, [.int tg, .ref a_st, .ref a_ck, .ref a_en, .ref a_au, .ref a_he, .ref a_qu, .ref a_lo, .ref a_ow, .ref a_fl, .ref a_ti, .ref a_gd, .ref a_ak, .ref a_sp, .ref a_se, .ref a_sd, .ref a_rw, .ref a_sz, .ref a_op, .ref a_th, .ref a_me, .ref a_pk, .int (nI kc), .int cm, .int su, .ref a_re, .int (nI kq), .ref a_dr])), (a_ow, .inl (cI, 2, .inl ow)), (a_sz, .inl (cI, 4, .inl (szf Ls)))] sz) := by
  refine xBody_z (S := Unit) (cc := b_Model_canLend) (maxL := 2) (by decide) rfl (Nat.le_of_ble_eq_true rfl) ?_
  intro p e s m args below meth c A H ls Q hx hb hml hin hts hown hP hD hK hN hS hA hl hret
  replace hl : lv_has ls 2 [(0, .ref h0), (1, .int (nI e_))] := hl
  have hin_Model : ∀ w ∈ u_ws R_Model F_Model 28, w ∈ (w_Model_canLend) := (fun w h => xm (lay_Model w h))
  have hq : s_Model_canLend ow Ls e_ = (bnd (α := Int32) (if 16 < ((nI ((Ls (2 * e_ + 1)).length)) + (ow e_)) then (0) else (1)) (fun y2 => y2)) := rfl
  refine lv_aload_n hx hb d_Model_canLend_0 rfl (lv_at hl 0 rfl) ?_
  refine va_get (D := D) (ci := 7) (v := .ref a_sz) (C := R_Model) (T := F_Model) (N := 28) hx hb hts hin_Model hown hK hP 0 rfl rfl 17 (by decide) (hts _ (xm ww_550)) (fun _ h9 => h9) rfl d_Model_canLend_1 ?_
  refine lv_iconst (v := 2) hx hb d_Model_canLend_4 rfl ?_
  refine lv_iload_n hx hb d_Model_canLend_5 rfl (lv_at hl 1 rfl) ?_
  refine lv_imul hx hb d_Model_canLend_6 ?_
  refine xtop (y := nI (2 * e_)) (pk_mul 2 e_) ?_
  refine lv_iconst (v := 1) hx hb d_Model_canLend_7 rfl ?_
  refine lv_iadd hx hb d_Model_canLend_8 ?_
  refine xtop (y := nI (2 * e_ + 1)) (nI_add (2 * e_) 1) ?_
  refine xiald (k := (2 * e_ + 1)) hx hb hK hP 2 0 rfl rfl rfl (by omega) (by decide) d_Model_canLend_9 ?_
  refine xtop (y := nI ((Ls (2 * e_ + 1)).length)) rfl ?_
  refine lv_aload_n hx hb d_Model_canLend_10 rfl (lv_at hl 0 rfl) ?_
  refine va_get (D := D) (ci := 7) (v := .ref a_ow) (C := R_Model) (T := F_Model) (N := 28) hx hb hts hin_Model hown hK hP 0 rfl rfl 8 (by decide) (hts _ (xm ww_541)) (fun _ h9 => h9) rfl d_Model_canLend_11 ?_
  refine lv_iload_n hx hb d_Model_canLend_14 rfl (lv_at hl 1 rfl) ?_
  refine xiald (k := e_) hx hb hK hP 1 0 rfl rfl rfl he_ (by decide) d_Model_canLend_15 ?_
  refine lv_iadd hx hb d_Model_canLend_16 ?_
  refine lv_bipush (v := 16) hx hb d_Model_canLend_17 rfl ?_
  have J1 : ∀ (y2 : Int32) (H : Heap) (locs : List Loc), y2 = (if 16 < ((nI ((Ls (2 * e_ + 1)).length)) + (ow e_)) then (0) else (1)) → xB y2 → va_P D vwCl [(h0, .inr (7, [.int tg, .ref a_st, .ref a_ck, .ref a_en, .ref a_au, .ref a_he, .ref a_qu, .ref a_lo, .ref a_ow, .ref a_fl, .ref a_ti, .ref a_gd, .ref a_ak, .ref a_sp, .ref a_se, .ref a_sd, .ref a_rw, .ref a_sz, .ref a_op, .ref a_th, .ref a_me, .ref a_pk, .int (nI kc), .int cm, .int su, .ref a_re, .int (nI kq), .ref a_dr])), (a_ow, .inl (cI, 2, .inl ow)), (a_sz, .inl (cI, 4, .inl (szf Ls)))] H → va_D A [(h0, .inr (7, [.int tg, .ref a_st, .ref a_ck, .ref a_en, .ref a_au, .ref a_he, .ref a_qu, .ref a_lo, .ref a_ow, .ref a_fl, .ref a_ti, .ref a_gd, .ref a_ak, .ref a_sp, .ref a_se, .ref a_sd, .ref a_rw, .ref a_sz, .ref a_op, .ref a_th, .ref a_me, .ref a_pk, .int (nI kc), .int cm, .int su, .ref a_re, .int (nI kq), .ref a_dr])), (a_ow, .inl (cI, 2, .inl ow)), (a_sz, .inl (cI, 4, .inl (szf Ls)))] → va_S A s.heap H locs → W p l e rm_Model_canLend s m args below meth c H locs 0 0 Q (F0 m 27 ls [.int y2]) := by
    intro y2 H locs hy2 hby2 hP hD hS
    replace hq := hq.trans (bnd_eq hy2)
    try dsimp only at hq
    exact hret y2 () ⟨hq.symm, hby2⟩ _ _ _ _ hby2 hP hD hS d_Model_canLend_27
  have hv : ((if 16 < ((nI ((Ls (2 * e_ + 1)).length)) + (ow e_)) then (0) else (1)) : Int32) = (if 16 < ((nI ((Ls (2 * e_ + 1)).length)) + (ow e_)) then (0) else (1)) := rfl
  refine lv_icmp_gt (tgt := 26) hx hb d_Model_canLend_19 rfl (fun h3 => ?_) (fun h3 => ?_)
  · replace hv := hv.trans (if_pos h3)
    refine lv_iconst (v := 0) hx hb d_Model_canLend_26 rfl ?_
    exact J1 _ _ _ hv.symm (Or.inl rfl) hP hD hS
  replace hv := hv.trans (if_neg h3)
  refine lv_iconst (v := 1) hx hb d_Model_canLend_22 rfl ?_
  refine lv_goto (tgt := 27) hx hb d_Model_canLend_23 rfl ?_
  exact J1 _ _ _ hv.symm (Or.inr rfl) hP hD hS

def s_Model_choose (st : Nat → Int32) (ak : Nat → Int32) (ow : Nat → Int32) (lo : Nat → Int32) (op : Nat → Int32) (Ls : Nat → List Int32) (e_ : Nat) : Int32 × (Nat → Int32) × (Nat → Int32) × (Nat → Int32) × (Nat → Int32) × (Nat → List Int32) := bnd (α := Int32) (if (st e_) = 5 then (1) else (0)) (fun y2 => if y2 = 0 then (if (st e_) = 3 then (if y2 = 0 then (259, ak, ow, lo, op, Ls) else (if (nI ((Ls (2 * e_)).length)) ≤ 0 then (259, ak, ow, lo, op, Ls) else (if (lo e_) ≤ 0 then (259, ak, ow, lo, op, Ls) else (bnd2 (s_Model_remove Ls (2 * e_)) (fun r8 Ls8 => bnd (α := Int32) (if 256 ≤ r8 then (0) else (1)) (fun y10 => (r8, ak, ow, upd lo e_ ((lo e_) - 1), upd op (2 * e_) y10, Ls8))))))) else (if (s_Model_canLend ow Ls e_) = 0 then (if y2 = 0 then (259, ak, ow, lo, op, Ls) else (if (nI ((Ls (2 * e_)).length)) ≤ 0 then (259, ak, ow, lo, op, Ls) else (if (lo e_) ≤ 0 then (259, ak, ow, lo, op, Ls) else (bnd2 (s_Model_remove Ls (2 * e_)) (fun r17 Ls17 => bnd (α := Int32) (if 256 ≤ r17 then (0) else (1)) (fun y19 => (r17, ak, ow, upd lo e_ ((lo e_) - 1), upd op (2 * e_) y19, Ls17))))))) else (258, ak, upd ow e_ ((ow e_) + 8), lo, op, Ls))) else (if (ak e_) = (-3) then (if (st e_) = 3 then (if y2 = 0 then (259, ak, ow, lo, op, Ls) else (if (nI ((Ls (2 * e_)).length)) ≤ 0 then (259, ak, ow, lo, op, Ls) else (if (lo e_) ≤ 0 then (259, ak, ow, lo, op, Ls) else (bnd2 (s_Model_remove Ls (2 * e_)) (fun r26 Ls26 => bnd (α := Int32) (if 256 ≤ r26 then (0) else (1)) (fun y28 => (r26, ak, ow, upd lo e_ ((lo e_) - 1), upd op (2 * e_) y28, Ls26))))))) else (if (s_Model_canLend ow Ls e_) = 0 then (if y2 = 0 then (259, ak, ow, lo, op, Ls) else (if (nI ((Ls (2 * e_)).length)) ≤ 0 then (259, ak, ow, lo, op, Ls) else (if (lo e_) ≤ 0 then (259, ak, ow, lo, op, Ls) else (bnd2 (s_Model_remove Ls (2 * e_)) (fun r35 Ls35 => bnd (α := Int32) (if 256 ≤ r35 then (0) else (1)) (fun y37 => (r35, ak, ow, upd lo e_ ((lo e_) - 1), upd op (2 * e_) y37, Ls35))))))) else (258, ak, upd ow e_ ((ow e_) + 8), lo, op, Ls))) else (260 + (ak e_), upd ak e_ (-3), ow, lo, op, Ls)))
abbrev rm_Model_choose : Room := { frames := 1, cells := 0, slots := 0, locals := 23 }
set_option maxHeartbeats 4000000 in
set_option maxRecDepth 100000 in
theorem c_Model_choose {l : Launch} {D : va_G} {cI cZ : ClassId} (st : Nat → Int32) (ak : Nat → Int32) (ow : Nat → Int32) (lo : Nat → Int32) (op : Nat → Int32) (Ls : Nat → List Int32) (e_ : Nat) (h0 : Nat) (a_st : Nat) (a_ck : Nat) (a_en : Nat) (a_au : Nat) (a_he : Nat) (a_qu : Nat) (a_lo : Nat) (a_ow : Nat) (a_fl : Nat) (a_ti : Nat) (a_gd : Nat) (a_ak : Nat) (a_sp : Nat) (a_se : Nat) (a_sd : Nat) (a_rw : Nat) (a_sz : Nat) (a_op : Nat) (a_th : Nat) (a_me : Nat) (a_pk : Nat) (a_re : Nat) (a_dr : Nat) (tg : Int32) (kc : Nat) (cm : Int32) (su : Int32) (kq : Nat) (rw : Nat → Int32) (hM : RepM rw Ls) (he_ : e_ < 2) (sz : Nat) : Met l y_Model_choose (w_Model_choose) rm_Model_choose (va_Pc [.ref h0, .int (nI e_)] (xPre xNs D vwCl cI cZ [(h0, .inr (7, [.int tg, .ref a_st, .ref a_ck, .ref a_en, .ref a_au, .ref a_he, .ref a_qu, .ref a_lo, .ref a_ow, .ref a_fl, .ref a_ti, .ref a_gd, .ref a_ak, .ref a_sp, .ref a_se, .ref a_sd, .ref a_rw, .ref a_sz, .ref a_op, .ref a_th, .ref a_me, .ref a_pk, .int (nI kc), .int cm, .int su, .ref a_re, .int (nI kq), .ref a_dr])), (a_st, .inl (cI, 2, .inl st)), (a_ak, .inl (cI, 2, .inl ak)), (a_ow, .inl (cI, 2, .inl ow)), (a_lo, .inl (cI, 2, .inl lo)), (a_op, .inl (cZ, 4, .inl op)), (a_rw, .inl (cI, 256, .inl rw)), (a_sz, .inl (cI, 4, .inl (szf Ls)))] sz)) (va_Qi (fun (r : Int32) (u : (Nat → Int32) × (Nat → Int32) × (Nat → Int32) × (Nat → Int32) × (Nat → List Int32) × (Nat → Int32)) => (r, u.1, u.2.1, u.2.2.1, u.2.2.2.1, u.2.2.2.2.1) = s_Model_choose st ak ow lo op Ls e_ ∧ RepM u.2.2.2.2.2 u.2.2.2.2.1) (fun u t9 => xAt D vwCl (va_A [(h0, .inr (7, [.int tg, .ref a_st, .ref a_ck, .ref a_en, .ref a_au, .ref a_he, .ref a_qu, .ref a_lo, .ref a_ow, .ref a_fl, .ref a_ti, .ref a_gd, .ref a_ak, .ref a_sp, .ref a_se, .ref a_sd, .ref a_rw, .ref a_sz, .ref a_op, .ref a_th, .ref a_me, .ref a_pk, .int (nI kc), .int cm, .int su, .ref a_re, .int (nI kq), .ref a_dr])), (a_st, .inl (cI, 2, .inl st)), (a_ak, .inl (cI, 2, .inl ak)), (a_ow, .inl (cI, 2, .inl ow)), (a_lo, .inl (cI, 2, .inl lo)), (a_op, .inl (cZ, 4, .inl op)), (a_rw, .inl (cI, 256, .inl rw)), (a_sz, .inl (cI, 4, .inl (szf Ls)))] sz) [(h0, .inr (7, [.int tg, .ref a_st, .ref a_ck, .ref a_en, .ref a_au, .ref a_he, .ref a_qu, .ref a_lo, .ref a_ow, .ref a_fl, .ref a_ti, .ref a_gd, .ref a_ak, .ref a_sp, .ref a_se, .ref a_sd, .ref a_rw, .ref a_sz, .ref a_op, .ref a_th, .ref a_me, .ref a_pk, .int (nI kc), .int cm, .int su, .ref a_re, .int (nI kq), .ref a_dr])), (a_st, .inl (cI, 2, .inl st)), (a_ak, .inl (cI, 2, .inl u.1)), (a_ow, .inl (cI, 2, .inl u.2.1)), (a_lo, .inl (cI, 2, .inl u.2.2.1)), (a_op, .inl (cZ, 4, .inl u.2.2.2.1)), (a_rw, .inl (cI, 256, .inl u.2.2.2.2.2)), (a_sz, .inl (cI, 4, .inl (szf u.2.2.2.2.1)))] t9) (va_A [(h0, .inr (7, [.int tg, .ref a_st, .ref a_ck, .ref a_en, .ref a_au, .ref a_he, .ref a_qu, .ref a_lo, .ref a_ow, .ref a_fl, .ref a_ti, .ref a_gd, .ref a_ak, .ref a_sp, .ref a_se, .ref a_sd, .ref a_rw, .ref a_sz, .ref a_op, .ref a_th, .ref a_me, .ref a_pk, .int (nI kc), .int cm, .int su, .ref a_re, .int (nI kq), .ref a_dr])), (a_st, .inl (cI, 2, .inl st)), (a_ak, .inl (cI, 2, .inl ak)), (a_ow, .inl (cI, 2, .inl ow)), (a_lo, .inl (cI, 2, .inl lo)), (a_op, .inl (cZ, 4, .inl op)), (a_rw, .inl (cI, 256, .inl rw)), (a_sz, .inl (cI, 4, .inl (szf Ls)))] sz)) 0 0 (va_A [(h0, .inr (7, [.int tg, .ref a_st, .ref a_ck, .ref a_en, .ref a_au, .ref a_he, .ref a_qu, .ref a_lo, .ref a_ow, .ref a_fl, .ref a_ti, .ref a_gd, .ref a_ak, .ref a_sp, .ref a_se, .ref a_sd, .ref a_rw, .ref a_sz, .ref a_op, .ref a_th, .ref a_me, .ref a_pk, .int (nI kc), .int cm, .int su, .ref a_re, .int (nI kq), .ref a_dr])), (a_st, .inl (cI, 2, .inl st)), (a_ak, .inl (cI, 2, .inl ak)), (a_ow, .inl (cI, 2, .inl ow)), (a_lo, .inl (cI, 2, .inl lo)), (a_op, .inl (cZ, 4, .inl op)), (a_rw, .inl (cI, 256, .inl rw)), (a_sz, .inl (cI, 4, .inl (szf Ls)))] sz) := by
  refine xBody_i (S := (Nat → Int32) × (Nat → Int32) × (Nat → Int32) × (Nat → Int32) × (Nat → List Int32) × (Nat → Int32)) (cc := b_Model_choose) (maxL := 4) (by decide) rfl (Nat.le_of_ble_eq_true rfl) ?_
  intro p e s m args below meth c A H ls Q hx hb hml hin hts hown hP hD hK hN hS hA hl hret
  replace hl : lv_has ls 4 [(0, .ref h0), (1, .int (nI e_))] := hl
  have hin_Model : ∀ w ∈ u_ws R_Model F_Model 28, w ∈ (w_Model_choose) := (fun w h => xm (lay_Model w h))
  have hq : s_Model_choose st ak ow lo op Ls e_ = (bnd (α := Int32) (if (st e_) = 5 then (1) else (0)) (fun y2 => if y2 = 0 then (if (st e_) = 3 then (if y2 = 0 then (259, ak, ow, lo, op, Ls) else (if (nI ((Ls (2 * e_)).length)) ≤ 0 then (259, ak, ow, lo, op, Ls) else (if (lo e_) ≤ 0 then (259, ak, ow, lo, op, Ls) else (bnd2 (s_Model_remove Ls (2 * e_)) (fun r8 Ls8 => bnd (α := Int32) (if 256 ≤ r8 then (0) else (1)) (fun y10 => (r8, ak, ow, upd lo e_ ((lo e_) - 1), upd op (2 * e_) y10, Ls8))))))) else (if (s_Model_canLend ow Ls e_) = 0 then (if y2 = 0 then (259, ak, ow, lo, op, Ls) else (if (nI ((Ls (2 * e_)).length)) ≤ 0 then (259, ak, ow, lo, op, Ls) else (if (lo e_) ≤ 0 then (259, ak, ow, lo, op, Ls) else (bnd2 (s_Model_remove Ls (2 * e_)) (fun r17 Ls17 => bnd (α := Int32) (if 256 ≤ r17 then (0) else (1)) (fun y19 => (r17, ak, ow, upd lo e_ ((lo e_) - 1), upd op (2 * e_) y19, Ls17))))))) else (258, ak, upd ow e_ ((ow e_) + 8), lo, op, Ls))) else (if (ak e_) = (-3) then (if (st e_) = 3 then (if y2 = 0 then (259, ak, ow, lo, op, Ls) else (if (nI ((Ls (2 * e_)).length)) ≤ 0 then (259, ak, ow, lo, op, Ls) else (if (lo e_) ≤ 0 then (259, ak, ow, lo, op, Ls) else (bnd2 (s_Model_remove Ls (2 * e_)) (fun r26 Ls26 => bnd (α := Int32) (if 256 ≤ r26 then (0) else (1)) (fun y28 => (r26, ak, ow, upd lo e_ ((lo e_) - 1), upd op (2 * e_) y28, Ls26))))))) else (if (s_Model_canLend ow Ls e_) = 0 then (if y2 = 0 then (259, ak, ow, lo, op, Ls) else (if (nI ((Ls (2 * e_)).length)) ≤ 0 then (259, ak, ow, lo, op, Ls) else (if (lo e_) ≤ 0 then (259, ak, ow, lo, op, Ls) else (bnd2 (s_Model_remove Ls (2 * e_)) (fun r35 Ls35 => bnd (α := Int32) (if 256 ≤ r35 then (0) else (1)) (fun y37 => (r35, ak, ow, upd lo e_ ((lo e_) - 1), upd op (2 * e_) y37, Ls35))))))) else (258, ak, upd ow e_ ((ow e_) + 8), lo, op, Ls))) else (260 + (ak e_), upd ak e_ (-3), ow, lo, op, Ls)))) := rfl
  refine lv_aload_n hx hb d_Model_choose_0 rfl (lv_at hl 0 rfl) ?_
  refine va_get (D := D) (ci := 7) (v := .ref a_st) (C := R_Model) (T := F_Model) (N := 28) hx hb hts hin_Model hown hK hP 0 rfl rfl 1 (by decide) (hts _ (xm ww_534)) (fun _ h9 => h9) rfl d_Model_choose_1 ?_
  refine lv_iload_n hx hb d_Model_choose_4 rfl (lv_at hl 1 rfl) ?_
  refine xiald (k := e_) hx hb hK hP 1 0 rfl rfl rfl he_ (by decide) d_Model_choose_5 ?_
  refine lv_iconst (v := 5) hx hb d_Model_choose_6 rfl ?_
  have J1 : ∀ (y2 : Int32) (H : Heap) (locs : List Loc), y2 = (if (st e_) = 5 then (1) else (0)) → xB y2 → va_P D vwCl [(h0, .inr (7, [.int tg, .ref a_st, .ref a_ck, .ref a_en, .ref a_au, .ref a_he, .ref a_qu, .ref a_lo, .ref a_ow, .ref a_fl, .ref a_ti, .ref a_gd, .ref a_ak, .ref a_sp, .ref a_se, .ref a_sd, .ref a_rw, .ref a_sz, .ref a_op, .ref a_th, .ref a_me, .ref a_pk, .int (nI kc), .int cm, .int su, .ref a_re, .int (nI kq), .ref a_dr])), (a_st, .inl (cI, 2, .inl st)), (a_ak, .inl (cI, 2, .inl ak)), (a_ow, .inl (cI, 2, .inl ow)), (a_lo, .inl (cI, 2, .inl lo)), (a_op, .inl (cZ, 4, .inl op)), (a_rw, .inl (cI, 256, .inl rw)), (a_sz, .inl (cI, 4, .inl (szf Ls)))] H → va_D A [(h0, .inr (7, [.int tg, .ref a_st, .ref a_ck, .ref a_en, .ref a_au, .ref a_he, .ref a_qu, .ref a_lo, .ref a_ow, .ref a_fl, .ref a_ti, .ref a_gd, .ref a_ak, .ref a_sp, .ref a_se, .ref a_sd, .ref a_rw, .ref a_sz, .ref a_op, .ref a_th, .ref a_me, .ref a_pk, .int (nI kc), .int cm, .int su, .ref a_re, .int (nI kq), .ref a_dr])), (a_st, .inl (cI, 2, .inl st)), (a_ak, .inl (cI, 2, .inl ak)), (a_ow, .inl (cI, 2, .inl ow)), (a_lo, .inl (cI, 2, .inl lo)), (a_op, .inl (cZ, 4, .inl op)), (a_rw, .inl (cI, 256, .inl rw)), (a_sz, .inl (cI, 4, .inl (szf Ls)))] → va_S A s.heap H locs → W p l e rm_Model_choose s m args below meth c H locs 0 0 Q (F0 m 15 ls [.int y2]) := by
    intro y2 H locs hy2 hby2 hP hD hS
    replace hq := hq.trans (bnd_eq hy2)
    try dsimp only at hq
    refine lv_istore_n hx hb d_Model_choose_15 rfl hl (by decide) rfl (fun ls hl => ?_)
    replace hl : lv_has ls 4 [(2, .int y2), (0, .ref h0), (1, .int (nI e_))] := hl
    refine lv_iload_n hx hb d_Model_choose_16 rfl (lv_at hl 0 rfl) ?_
    refine lv_if_eq (tgt := 52) hx hb d_Model_choose_17 rfl (fun h3 => ?_) (fun h3 => ?_)
    · replace hq := hq.trans (if_pos h3)
      refine lv_aload_n hx hb d_Model_choose_52 rfl (lv_at hl 1 rfl) ?_
      refine va_get (D := D) (ci := 7) (v := .ref a_st) (C := R_Model) (T := F_Model) (N := 28) hx hb hts hin_Model hown hK hP 0 rfl rfl 1 (by decide) (hts _ (xm ww_534)) (fun _ h9 => h9) rfl d_Model_choose_53 ?_
      refine lv_iload_n hx hb d_Model_choose_56 rfl (lv_at hl 2 rfl) ?_
      refine xiald (k := e_) hx hb hK hP 1 0 rfl rfl rfl he_ (by decide) d_Model_choose_57 ?_
      refine lv_iconst (v := 3) hx hb d_Model_choose_58 rfl ?_
      refine lv_icmp_eq (tgt := 89) hx hb d_Model_choose_59 rfl (fun h4 => ?_) (fun h4 => ?_)
      · replace hq := hq.trans (if_pos h4)
        refine lv_iload_n hx hb d_Model_choose_89 rfl (lv_at hl 0 rfl) ?_
        refine lv_if_eq (tgt := 153) hx hb d_Model_choose_90 rfl (fun h5 => ?_) (fun h5 => ?_)
        · replace hq := hq.trans (if_pos h5)
          refine lv_sipush (v := 259) hx hb d_Model_choose_153 rfl ?_
          exact hret 259 (ak, ow, lo, op, Ls, rw) ⟨hq.symm, hM⟩ _ _ _ _ hP hD hS d_Model_choose_156
        replace hq := hq.trans (if_neg h5)
        refine lv_aload_n hx hb d_Model_choose_93 rfl (lv_at hl 1 rfl) ?_
        refine va_get (D := D) (ci := 7) (v := .ref a_sz) (C := R_Model) (T := F_Model) (N := 28) hx hb hts hin_Model hown hK hP 0 rfl rfl 17 (by decide) (hts _ (xm ww_550)) (fun _ h9 => h9) rfl d_Model_choose_94 ?_
        refine lv_iconst (v := 2) hx hb d_Model_choose_97 rfl ?_
        refine lv_iload_n hx hb d_Model_choose_98 rfl (lv_at hl 2 rfl) ?_
        refine lv_imul hx hb d_Model_choose_99 ?_
        refine xtop (y := nI (2 * e_)) (pk_mul 2 e_) ?_
        refine xiald (k := (2 * e_)) hx hb hK hP 7 0 rfl rfl rfl (by omega) (by decide) d_Model_choose_100 ?_
        refine xtop (y := nI ((Ls (2 * e_)).length)) rfl ?_
        refine lv_if_le (tgt := 153) hx hb d_Model_choose_101 rfl (fun h6 => ?_) (fun h6 => ?_)
        · replace hq := hq.trans (if_pos h6)
          refine lv_sipush (v := 259) hx hb d_Model_choose_153 rfl ?_
          exact hret 259 (ak, ow, lo, op, Ls, rw) ⟨hq.symm, hM⟩ _ _ _ _ hP hD hS d_Model_choose_156
        replace hq := hq.trans (if_neg h6)
        refine lv_aload_n hx hb d_Model_choose_104 rfl (lv_at hl 1 rfl) ?_
        refine va_get (D := D) (ci := 7) (v := .ref a_lo) (C := R_Model) (T := F_Model) (N := 28) hx hb hts hin_Model hown hK hP 0 rfl rfl 7 (by decide) (hts _ (xm ww_540)) (fun _ h9 => h9) rfl d_Model_choose_105 ?_
        refine lv_iload_n hx hb d_Model_choose_108 rfl (lv_at hl 2 rfl) ?_
        refine xiald (k := e_) hx hb hK hP 4 0 rfl rfl rfl he_ (by decide) d_Model_choose_109 ?_
        refine lv_if_le (tgt := 153) hx hb d_Model_choose_110 rfl (fun h7 => ?_) (fun h7 => ?_)
        · replace hq := hq.trans (if_pos h7)
          refine lv_sipush (v := 259) hx hb d_Model_choose_153 rfl ?_
          exact hret 259 (ak, ow, lo, op, Ls, rw) ⟨hq.symm, hM⟩ _ _ _ _ hP hD hS d_Model_choose_156
        replace hq := hq.trans (if_neg h7)
        refine lv_aload_n hx hb d_Model_choose_113 rfl (lv_at hl 1 rfl) ?_
        refine va_get (D := D) (ci := 7) (v := .ref a_lo) (C := R_Model) (T := F_Model) (N := 28) hx hb hts hin_Model hown hK hP 0 rfl rfl 7 (by decide) (hts _ (xm ww_540)) (fun _ h9 => h9) rfl d_Model_choose_114 ?_
        refine lv_iload_n hx hb d_Model_choose_117 rfl (lv_at hl 2 rfl) ?_
        refine lv_dup2_11 hx hb d_Model_choose_118 rfl rfl ?_
        refine xiald (k := e_) hx hb hK hP 4 0 rfl rfl rfl he_ (by decide) d_Model_choose_119 ?_
        refine lv_iconst (v := 1) hx hb d_Model_choose_120 rfl ?_
        refine lv_isub hx hb d_Model_choose_121 ?_
        refine xiast (k := e_) hx hb hK hP hD hS 4 0 rfl rfl rfl he_ (by decide) d_Model_choose_122 (fun H locs hP hD hS => ?_)
        replace hP : va_P D vwCl [(h0, .inr (7, [.int tg, .ref a_st, .ref a_ck, .ref a_en, .ref a_au, .ref a_he, .ref a_qu, .ref a_lo, .ref a_ow, .ref a_fl, .ref a_ti, .ref a_gd, .ref a_ak, .ref a_sp, .ref a_se, .ref a_sd, .ref a_rw, .ref a_sz, .ref a_op, .ref a_th, .ref a_me, .ref a_pk, .int (nI kc), .int cm, .int su, .ref a_re, .int (nI kq), .ref a_dr])), (a_st, .inl (cI, 2, .inl st)), (a_ak, .inl (cI, 2, .inl ak)), (a_ow, .inl (cI, 2, .inl ow)), (a_lo, .inl (cI, 2, .inl (upd lo e_ ((lo e_) - 1)))), (a_op, .inl (cZ, 4, .inl op)), (a_rw, .inl (cI, 256, .inl rw)), (a_sz, .inl (cI, 4, .inl (szf Ls)))] H := hP
        replace hD : va_D A [(h0, .inr (7, [.int tg, .ref a_st, .ref a_ck, .ref a_en, .ref a_au, .ref a_he, .ref a_qu, .ref a_lo, .ref a_ow, .ref a_fl, .ref a_ti, .ref a_gd, .ref a_ak, .ref a_sp, .ref a_se, .ref a_sd, .ref a_rw, .ref a_sz, .ref a_op, .ref a_th, .ref a_me, .ref a_pk, .int (nI kc), .int cm, .int su, .ref a_re, .int (nI kq), .ref a_dr])), (a_st, .inl (cI, 2, .inl st)), (a_ak, .inl (cI, 2, .inl ak)), (a_ow, .inl (cI, 2, .inl ow)), (a_lo, .inl (cI, 2, .inl (upd lo e_ ((lo e_) - 1)))), (a_op, .inl (cZ, 4, .inl op)), (a_rw, .inl (cI, 256, .inl rw)), (a_sz, .inl (cI, 4, .inl (szf Ls)))] := hD
        refine lv_aload_n hx hb d_Model_choose_123 rfl (lv_at hl 1 rfl) ?_
        refine lv_iconst (v := 2) hx hb d_Model_choose_124 rfl ?_
        refine lv_iload_n hx hb d_Model_choose_125 rfl (lv_at hl 2 rfl) ?_
        refine lv_imul hx hb d_Model_choose_126 ?_
        refine xtop (y := nI (2 * e_)) (pk_mul 2 e_) ?_
        refine xcall_i (wc := [(h0, .inr (7, [.int tg, .ref a_st, .ref a_ck, .ref a_en, .ref a_au, .ref a_he, .ref a_qu, .ref a_lo, .ref a_ow, .ref a_fl, .ref a_ti, .ref a_gd, .ref a_ak, .ref a_sp, .ref a_se, .ref a_sd, .ref a_rw, .ref a_sz, .ref a_op, .ref a_th, .ref a_me, .ref a_pk, .int (nI kc), .int cm, .int su, .ref a_re, .int (nI kq), .ref a_dr])), (a_rw, .inl (cI, 256, .inl rw)), (a_sz, .inl (cI, 4, .inl (szf Ls)))]) (wr := [(a_st, .inl (cI, 2, .inl st)), (a_ak, .inl (cI, 2, .inl ak)), (a_ow, .inl (cI, 2, .inl ow)), (a_lo, .inl (cI, 2, .inl (upd lo e_ ((lo e_) - 1)))), (a_op, .inl (cZ, 4, .inl op))]) (ws1 := fun (u : (Nat → List Int32) × (Nat → Int32)) => [(h0, .inr (7, [.int tg, .ref a_st, .ref a_ck, .ref a_en, .ref a_au, .ref a_he, .ref a_qu, .ref a_lo, .ref a_ow, .ref a_fl, .ref a_ti, .ref a_gd, .ref a_ak, .ref a_sp, .ref a_se, .ref a_sd, .ref a_rw, .ref a_sz, .ref a_op, .ref a_th, .ref a_me, .ref a_pk, .int (nI kc), .int cm, .int su, .ref a_re, .int (nI kq), .ref a_dr])), (a_st, .inl (cI, 2, .inl st)), (a_ak, .inl (cI, 2, .inl ak)), (a_ow, .inl (cI, 2, .inl ow)), (a_lo, .inl (cI, 2, .inl (upd lo e_ ((lo e_) - 1)))), (a_op, .inl (cZ, 4, .inl op)), (a_rw, .inl (cI, 256, .inl u.2)), (a_sz, .inl (cI, 4, .inl (szf u.1)))]) (va_runV (As := [.int (nI (2 * e_))]) (rest := []) ⟨hx, hb, hml, hown, hts⟩ (c_Model_remove Ls (2 * e_) h0 a_st a_ck a_en a_au a_he a_qu a_lo a_ow a_fl a_ti a_gd a_ak a_sp a_se a_sd a_rw a_sz a_op a_th a_me a_pk a_re a_dr tg kc cm su kq rw hM (by omega) (Nat.pos_of_ne_zero fun h9 => h6 (by rw [h9]; decide)) H.size) (xcwV 1 hts ww_646 ww_643 ww_645 ws_Model_remove ww_8 (by decide +kernel) rfl rfl ⟨Nat.le_of_ble_eq_true rfl, Nat.le_of_ble_eq_true rfl⟩) (xPreV (ci := 7) (q0 := 0) (q := (R_Model, F_Model, 28)) (hP.sub [0, 6, 7] rfl) (hD.sub [0, 6, 7] (by decide) rfl) hK hN rfl rfl rfl) rfl rfl hl.1 rfl (lv_room (Nat.le_of_ble_eq_true rfl)) d_Model_choose_127 ⟨Nat.le_of_ble_eq_true rfl, Nat.le_of_ble_eq_true rfl⟩) hP hD hS hA [0, 6, 7] [1, 2, 3, 4, 5] [5, 0, 1, 2, 3, 4, 6, 7] rfl rfl (by decide) (by decide) (by decide) (fun _ => rfl) (fun r8 u8 H locs hw hP hD hS => ?_)
        obtain ⟨Ls8, rw8⟩ := u8
        obtain ⟨hw, hM_8⟩ := hw
        replace hP : va_P D vwCl [(h0, .inr (7, [.int tg, .ref a_st, .ref a_ck, .ref a_en, .ref a_au, .ref a_he, .ref a_qu, .ref a_lo, .ref a_ow, .ref a_fl, .ref a_ti, .ref a_gd, .ref a_ak, .ref a_sp, .ref a_se, .ref a_sd, .ref a_rw, .ref a_sz, .ref a_op, .ref a_th, .ref a_me, .ref a_pk, .int (nI kc), .int cm, .int su, .ref a_re, .int (nI kq), .ref a_dr])), (a_st, .inl (cI, 2, .inl st)), (a_ak, .inl (cI, 2, .inl ak)), (a_ow, .inl (cI, 2, .inl ow)), (a_lo, .inl (cI, 2, .inl (upd lo e_ ((lo e_) - 1)))), (a_op, .inl (cZ, 4, .inl op)), (a_rw, .inl (cI, 256, .inl rw8)), (a_sz, .inl (cI, 4, .inl (szf Ls8)))] H := hP
        replace hD : va_D A [(h0, .inr (7, [.int tg, .ref a_st, .ref a_ck, .ref a_en, .ref a_au, .ref a_he, .ref a_qu, .ref a_lo, .ref a_ow, .ref a_fl, .ref a_ti, .ref a_gd, .ref a_ak, .ref a_sp, .ref a_se, .ref a_sd, .ref a_rw, .ref a_sz, .ref a_op, .ref a_th, .ref a_me, .ref a_pk, .int (nI kc), .int cm, .int su, .ref a_re, .int (nI kq), .ref a_dr])), (a_st, .inl (cI, 2, .inl st)), (a_ak, .inl (cI, 2, .inl ak)), (a_ow, .inl (cI, 2, .inl ow)), (a_lo, .inl (cI, 2, .inl (upd lo e_ ((lo e_) - 1)))), (a_op, .inl (cZ, 4, .inl op)), (a_rw, .inl (cI, 256, .inl rw8)), (a_sz, .inl (cI, 4, .inl (szf Ls8)))] := hD
        have hw_8 := hw
        replace hq := hq.trans (bnd2_eq hw)
        try dsimp only at hq
        refine lv_istore_n hx hb d_Model_choose_130 rfl hl (by decide) rfl (fun ls hl => ?_)
        replace hl : lv_has ls 4 [(3, .int r8), (2, .int y2), (0, .ref h0), (1, .int (nI e_))] := hl
        refine lv_aload_n hx hb d_Model_choose_131 rfl (lv_at hl 2 rfl) ?_
        refine va_get (D := D) (ci := 7) (v := .ref a_op) (C := R_Model) (T := F_Model) (N := 28) hx hb hts hin_Model hown hK hP 0 rfl rfl 18 (by decide) (hts _ (xm ww_551)) (fun _ h9 => h9) rfl d_Model_choose_132 ?_
        refine lv_iconst (v := 2) hx hb d_Model_choose_135 rfl ?_
        refine lv_iload_n hx hb d_Model_choose_136 rfl (lv_at hl 3 rfl) ?_
        refine lv_imul hx hb d_Model_choose_137 ?_
        refine xtop (y := nI (2 * e_)) (pk_mul 2 e_) ?_
        refine lv_iload_n hx hb d_Model_choose_138 rfl (lv_at hl 0 rfl) ?_
        refine lv_sipush (v := 256) hx hb d_Model_choose_139 rfl ?_
        have J9 : ∀ (y10 : Int32) (H : Heap) (locs : List Loc), y10 = (if 256 ≤ r8 then (0) else (1)) → xB y10 → va_P D vwCl [(h0, .inr (7, [.int tg, .ref a_st, .ref a_ck, .ref a_en, .ref a_au, .ref a_he, .ref a_qu, .ref a_lo, .ref a_ow, .ref a_fl, .ref a_ti, .ref a_gd, .ref a_ak, .ref a_sp, .ref a_se, .ref a_sd, .ref a_rw, .ref a_sz, .ref a_op, .ref a_th, .ref a_me, .ref a_pk, .int (nI kc), .int cm, .int su, .ref a_re, .int (nI kq), .ref a_dr])), (a_st, .inl (cI, 2, .inl st)), (a_ak, .inl (cI, 2, .inl ak)), (a_ow, .inl (cI, 2, .inl ow)), (a_lo, .inl (cI, 2, .inl (upd lo e_ ((lo e_) - 1)))), (a_op, .inl (cZ, 4, .inl op)), (a_rw, .inl (cI, 256, .inl rw8)), (a_sz, .inl (cI, 4, .inl (szf Ls8)))] H → va_D A [(h0, .inr (7, [.int tg, .ref a_st, .ref a_ck, .ref a_en, .ref a_au, .ref a_he, .ref a_qu, .ref a_lo, .ref a_ow, .ref a_fl, .ref a_ti, .ref a_gd, .ref a_ak, .ref a_sp, .ref a_se, .ref a_sd, .ref a_rw, .ref a_sz, .ref a_op, .ref a_th, .ref a_me, .ref a_pk, .int (nI kc), .int cm, .int su, .ref a_re, .int (nI kq), .ref a_dr])), (a_st, .inl (cI, 2, .inl st)), (a_ak, .inl (cI, 2, .inl ak)), (a_ow, .inl (cI, 2, .inl ow)), (a_lo, .inl (cI, 2, .inl (upd lo e_ ((lo e_) - 1)))), (a_op, .inl (cZ, 4, .inl op)), (a_rw, .inl (cI, 256, .inl rw8)), (a_sz, .inl (cI, 4, .inl (szf Ls8)))] → va_S A s.heap H locs → W p l e rm_Model_choose s m args below meth c H locs 0 0 Q (F0 m 150 ls [.int y10, .int (nI (2 * e_)), .ref a_op]) := by
          intro y10 H locs hy10 hby10 hP hD hS
          replace hq := hq.trans (bnd_eq hy10)
          try dsimp only at hq
          refine xzast (k := (2 * e_)) hx hb hK hP hD hS 5 1 rfl rfl rfl (by omega) (by decide) hby10 d_Model_choose_150 (fun H locs hP hD hS => ?_)
          replace hP : va_P D vwCl [(h0, .inr (7, [.int tg, .ref a_st, .ref a_ck, .ref a_en, .ref a_au, .ref a_he, .ref a_qu, .ref a_lo, .ref a_ow, .ref a_fl, .ref a_ti, .ref a_gd, .ref a_ak, .ref a_sp, .ref a_se, .ref a_sd, .ref a_rw, .ref a_sz, .ref a_op, .ref a_th, .ref a_me, .ref a_pk, .int (nI kc), .int cm, .int su, .ref a_re, .int (nI kq), .ref a_dr])), (a_st, .inl (cI, 2, .inl st)), (a_ak, .inl (cI, 2, .inl ak)), (a_ow, .inl (cI, 2, .inl ow)), (a_lo, .inl (cI, 2, .inl (upd lo e_ ((lo e_) - 1)))), (a_op, .inl (cZ, 4, .inl (upd op (2 * e_) y10))), (a_rw, .inl (cI, 256, .inl rw8)), (a_sz, .inl (cI, 4, .inl (szf Ls8)))] H := hP
          replace hD : va_D A [(h0, .inr (7, [.int tg, .ref a_st, .ref a_ck, .ref a_en, .ref a_au, .ref a_he, .ref a_qu, .ref a_lo, .ref a_ow, .ref a_fl, .ref a_ti, .ref a_gd, .ref a_ak, .ref a_sp, .ref a_se, .ref a_sd, .ref a_rw, .ref a_sz, .ref a_op, .ref a_th, .ref a_me, .ref a_pk, .int (nI kc), .int cm, .int su, .ref a_re, .int (nI kq), .ref a_dr])), (a_st, .inl (cI, 2, .inl st)), (a_ak, .inl (cI, 2, .inl ak)), (a_ow, .inl (cI, 2, .inl ow)), (a_lo, .inl (cI, 2, .inl (upd lo e_ ((lo e_) - 1)))), (a_op, .inl (cZ, 4, .inl (upd op (2 * e_) y10))), (a_rw, .inl (cI, 256, .inl rw8)), (a_sz, .inl (cI, 4, .inl (szf Ls8)))] := hD
          refine lv_iload_n hx hb d_Model_choose_151 rfl (lv_at hl 0 rfl) ?_
          exact hret r8 (ak, ow, upd lo e_ ((lo e_) - 1), upd op (2 * e_) y10, Ls8, rw8) ⟨hq.symm, hM_8⟩ _ _ _ _ hP hD hS d_Model_choose_152
        have hv : ((if 256 ≤ r8 then (0) else (1)) : Int32) = (if 256 ≤ r8 then (0) else (1)) := rfl
        refine lv_icmp_ge (tgt := 149) hx hb d_Model_choose_142 rfl (fun h11 => ?_) (fun h11 => ?_)
        · replace hv := hv.trans (if_pos h11)
          refine lv_iconst (v := 0) hx hb d_Model_choose_149 rfl ?_
          exact J9 _ _ _ hv.symm (Or.inl rfl) hP hD hS
        replace hv := hv.trans (if_neg h11)
        refine lv_iconst (v := 1) hx hb d_Model_choose_145 rfl ?_
        refine lv_goto (tgt := 150) hx hb d_Model_choose_146 rfl ?_
        exact J9 _ _ _ hv.symm (Or.inr rfl) hP hD hS
      replace hq := hq.trans (if_neg h4)
      refine lv_aload_n hx hb d_Model_choose_62 rfl (lv_at hl 1 rfl) ?_
      refine lv_iload_n hx hb d_Model_choose_63 rfl (lv_at hl 2 rfl) ?_
      refine xcall_i (wc := [(h0, .inr (7, [.int tg, .ref a_st, .ref a_ck, .ref a_en, .ref a_au, .ref a_he, .ref a_qu, .ref a_lo, .ref a_ow, .ref a_fl, .ref a_ti, .ref a_gd, .ref a_ak, .ref a_sp, .ref a_se, .ref a_sd, .ref a_rw, .ref a_sz, .ref a_op, .ref a_th, .ref a_me, .ref a_pk, .int (nI kc), .int cm, .int su, .ref a_re, .int (nI kq), .ref a_dr])), (a_ow, .inl (cI, 2, .inl ow)), (a_sz, .inl (cI, 4, .inl (szf Ls)))]) (wr := [(a_st, .inl (cI, 2, .inl st)), (a_ak, .inl (cI, 2, .inl ak)), (a_lo, .inl (cI, 2, .inl lo)), (a_op, .inl (cZ, 4, .inl op)), (a_rw, .inl (cI, 256, .inl rw))]) (ws1 := fun (u : Unit) => [(h0, .inr (7, [.int tg, .ref a_st, .ref a_ck, .ref a_en, .ref a_au, .ref a_he, .ref a_qu, .ref a_lo, .ref a_ow, .ref a_fl, .ref a_ti, .ref a_gd, .ref a_ak, .ref a_sp, .ref a_se, .ref a_sd, .ref a_rw, .ref a_sz, .ref a_op, .ref a_th, .ref a_me, .ref a_pk, .int (nI kc), .int cm, .int su, .ref a_re, .int (nI kq), .ref a_dr])), (a_st, .inl (cI, 2, .inl st)), (a_ak, .inl (cI, 2, .inl ak)), (a_ow, .inl (cI, 2, .inl ow)), (a_lo, .inl (cI, 2, .inl lo)), (a_op, .inl (cZ, 4, .inl op)), (a_rw, .inl (cI, 256, .inl rw)), (a_sz, .inl (cI, 4, .inl (szf Ls)))]) (va_runV (As := [.int (nI e_)]) (rest := []) ⟨hx, hb, hml, hown, hts⟩ (c_Model_canLend ow Ls e_ h0 a_st a_ck a_en a_au a_he a_qu a_lo a_ow a_fl a_ti a_gd a_ak a_sp a_se a_sd a_rw a_sz a_op a_th a_me a_pk a_re a_dr tg kc cm su kq he_ H.size) (xcwV 1 hts ww_658 ww_655 ww_657 ws_Model_canLend ww_8 (by decide +kernel) rfl rfl ⟨Nat.le_of_ble_eq_true rfl, Nat.le_of_ble_eq_true rfl⟩) (xPreV (ci := 7) (q0 := 0) (q := (R_Model, F_Model, 28)) (hP.sub [0, 3, 7] rfl) (hD.sub [0, 3, 7] (by decide) rfl) hK hN rfl rfl rfl) rfl rfl hl.1 rfl (lv_room (Nat.le_of_ble_eq_true rfl)) d_Model_choose_64 ⟨Nat.le_of_ble_eq_true rfl, Nat.le_of_ble_eq_true rfl⟩) hP hD hS hA [0, 3, 7] [1, 2, 4, 5, 6] [5, 0, 1, 6, 2, 3, 4, 7] rfl rfl (by decide) (by decide) (by decide) (fun _ => rfl) (fun r12 u12 H locs hw hP hD hS => ?_)
      obtain ⟨hw, hbr_12⟩ := hw
      subst hw
      replace hP : va_P D vwCl [(h0, .inr (7, [.int tg, .ref a_st, .ref a_ck, .ref a_en, .ref a_au, .ref a_he, .ref a_qu, .ref a_lo, .ref a_ow, .ref a_fl, .ref a_ti, .ref a_gd, .ref a_ak, .ref a_sp, .ref a_se, .ref a_sd, .ref a_rw, .ref a_sz, .ref a_op, .ref a_th, .ref a_me, .ref a_pk, .int (nI kc), .int cm, .int su, .ref a_re, .int (nI kq), .ref a_dr])), (a_st, .inl (cI, 2, .inl st)), (a_ak, .inl (cI, 2, .inl ak)), (a_ow, .inl (cI, 2, .inl ow)), (a_lo, .inl (cI, 2, .inl lo)), (a_op, .inl (cZ, 4, .inl op)), (a_rw, .inl (cI, 256, .inl rw)), (a_sz, .inl (cI, 4, .inl (szf Ls)))] H := hP
      replace hD : va_D A [(h0, .inr (7, [.int tg, .ref a_st, .ref a_ck, .ref a_en, .ref a_au, .ref a_he, .ref a_qu, .ref a_lo, .ref a_ow, .ref a_fl, .ref a_ti, .ref a_gd, .ref a_ak, .ref a_sp, .ref a_se, .ref a_sd, .ref a_rw, .ref a_sz, .ref a_op, .ref a_th, .ref a_me, .ref a_pk, .int (nI kc), .int cm, .int su, .ref a_re, .int (nI kq), .ref a_dr])), (a_st, .inl (cI, 2, .inl st)), (a_ak, .inl (cI, 2, .inl ak)), (a_ow, .inl (cI, 2, .inl ow)), (a_lo, .inl (cI, 2, .inl lo)), (a_op, .inl (cZ, 4, .inl op)), (a_rw, .inl (cI, 256, .inl rw)), (a_sz, .inl (cI, 4, .inl (szf Ls)))] := hD
      refine lv_if_eq (tgt := 89) hx hb d_Model_choose_67 rfl (fun h13 => ?_) (fun h13 => ?_)
      · replace hq := hq.trans (if_pos h13)
        refine lv_iload_n hx hb d_Model_choose_89 rfl (lv_at hl 0 rfl) ?_
        refine lv_if_eq (tgt := 153) hx hb d_Model_choose_90 rfl (fun h14 => ?_) (fun h14 => ?_)
        · replace hq := hq.trans (if_pos h14)
          refine lv_sipush (v := 259) hx hb d_Model_choose_153 rfl ?_
          exact hret 259 (ak, ow, lo, op, Ls, rw) ⟨hq.symm, hM⟩ _ _ _ _ hP hD hS d_Model_choose_156
        replace hq := hq.trans (if_neg h14)
        refine lv_aload_n hx hb d_Model_choose_93 rfl (lv_at hl 1 rfl) ?_
        refine va_get (D := D) (ci := 7) (v := .ref a_sz) (C := R_Model) (T := F_Model) (N := 28) hx hb hts hin_Model hown hK hP 0 rfl rfl 17 (by decide) (hts _ (xm ww_550)) (fun _ h9 => h9) rfl d_Model_choose_94 ?_
        refine lv_iconst (v := 2) hx hb d_Model_choose_97 rfl ?_
        refine lv_iload_n hx hb d_Model_choose_98 rfl (lv_at hl 2 rfl) ?_
        refine lv_imul hx hb d_Model_choose_99 ?_
        refine xtop (y := nI (2 * e_)) (pk_mul 2 e_) ?_
        refine xiald (k := (2 * e_)) hx hb hK hP 7 0 rfl rfl rfl (by omega) (by decide) d_Model_choose_100 ?_
        refine xtop (y := nI ((Ls (2 * e_)).length)) rfl ?_
        refine lv_if_le (tgt := 153) hx hb d_Model_choose_101 rfl (fun h15 => ?_) (fun h15 => ?_)
        · replace hq := hq.trans (if_pos h15)
          refine lv_sipush (v := 259) hx hb d_Model_choose_153 rfl ?_
          exact hret 259 (ak, ow, lo, op, Ls, rw) ⟨hq.symm, hM⟩ _ _ _ _ hP hD hS d_Model_choose_156
        replace hq := hq.trans (if_neg h15)
        refine lv_aload_n hx hb d_Model_choose_104 rfl (lv_at hl 1 rfl) ?_
        refine va_get (D := D) (ci := 7) (v := .ref a_lo) (C := R_Model) (T := F_Model) (N := 28) hx hb hts hin_Model hown hK hP 0 rfl rfl 7 (by decide) (hts _ (xm ww_540)) (fun _ h9 => h9) rfl d_Model_choose_105 ?_
        refine lv_iload_n hx hb d_Model_choose_108 rfl (lv_at hl 2 rfl) ?_
        refine xiald (k := e_) hx hb hK hP 4 0 rfl rfl rfl he_ (by decide) d_Model_choose_109 ?_
        refine lv_if_le (tgt := 153) hx hb d_Model_choose_110 rfl (fun h16 => ?_) (fun h16 => ?_)
        · replace hq := hq.trans (if_pos h16)
          refine lv_sipush (v := 259) hx hb d_Model_choose_153 rfl ?_
          exact hret 259 (ak, ow, lo, op, Ls, rw) ⟨hq.symm, hM⟩ _ _ _ _ hP hD hS d_Model_choose_156
        replace hq := hq.trans (if_neg h16)
        refine lv_aload_n hx hb d_Model_choose_113 rfl (lv_at hl 1 rfl) ?_
        refine va_get (D := D) (ci := 7) (v := .ref a_lo) (C := R_Model) (T := F_Model) (N := 28) hx hb hts hin_Model hown hK hP 0 rfl rfl 7 (by decide) (hts _ (xm ww_540)) (fun _ h9 => h9) rfl d_Model_choose_114 ?_
        refine lv_iload_n hx hb d_Model_choose_117 rfl (lv_at hl 2 rfl) ?_
        refine lv_dup2_11 hx hb d_Model_choose_118 rfl rfl ?_
        refine xiald (k := e_) hx hb hK hP 4 0 rfl rfl rfl he_ (by decide) d_Model_choose_119 ?_
        refine lv_iconst (v := 1) hx hb d_Model_choose_120 rfl ?_
        refine lv_isub hx hb d_Model_choose_121 ?_
        refine xiast (k := e_) hx hb hK hP hD hS 4 0 rfl rfl rfl he_ (by decide) d_Model_choose_122 (fun H locs hP hD hS => ?_)
        replace hP : va_P D vwCl [(h0, .inr (7, [.int tg, .ref a_st, .ref a_ck, .ref a_en, .ref a_au, .ref a_he, .ref a_qu, .ref a_lo, .ref a_ow, .ref a_fl, .ref a_ti, .ref a_gd, .ref a_ak, .ref a_sp, .ref a_se, .ref a_sd, .ref a_rw, .ref a_sz, .ref a_op, .ref a_th, .ref a_me, .ref a_pk, .int (nI kc), .int cm, .int su, .ref a_re, .int (nI kq), .ref a_dr])), (a_st, .inl (cI, 2, .inl st)), (a_ak, .inl (cI, 2, .inl ak)), (a_ow, .inl (cI, 2, .inl ow)), (a_lo, .inl (cI, 2, .inl (upd lo e_ ((lo e_) - 1)))), (a_op, .inl (cZ, 4, .inl op)), (a_rw, .inl (cI, 256, .inl rw)), (a_sz, .inl (cI, 4, .inl (szf Ls)))] H := hP
        replace hD : va_D A [(h0, .inr (7, [.int tg, .ref a_st, .ref a_ck, .ref a_en, .ref a_au, .ref a_he, .ref a_qu, .ref a_lo, .ref a_ow, .ref a_fl, .ref a_ti, .ref a_gd, .ref a_ak, .ref a_sp, .ref a_se, .ref a_sd, .ref a_rw, .ref a_sz, .ref a_op, .ref a_th, .ref a_me, .ref a_pk, .int (nI kc), .int cm, .int su, .ref a_re, .int (nI kq), .ref a_dr])), (a_st, .inl (cI, 2, .inl st)), (a_ak, .inl (cI, 2, .inl ak)), (a_ow, .inl (cI, 2, .inl ow)), (a_lo, .inl (cI, 2, .inl (upd lo e_ ((lo e_) - 1)))), (a_op, .inl (cZ, 4, .inl op)), (a_rw, .inl (cI, 256, .inl rw)), (a_sz, .inl (cI, 4, .inl (szf Ls)))] := hD
        refine lv_aload_n hx hb d_Model_choose_123 rfl (lv_at hl 1 rfl) ?_
        refine lv_iconst (v := 2) hx hb d_Model_choose_124 rfl ?_
        refine lv_iload_n hx hb d_Model_choose_125 rfl (lv_at hl 2 rfl) ?_
        refine lv_imul hx hb d_Model_choose_126 ?_
        refine xtop (y := nI (2 * e_)) (pk_mul 2 e_) ?_
        refine xcall_i (wc := [(h0, .inr (7, [.int tg, .ref a_st, .ref a_ck, .ref a_en, .ref a_au, .ref a_he, .ref a_qu, .ref a_lo, .ref a_ow, .ref a_fl, .ref a_ti, .ref a_gd, .ref a_ak, .ref a_sp, .ref a_se, .ref a_sd, .ref a_rw, .ref a_sz, .ref a_op, .ref a_th, .ref a_me, .ref a_pk, .int (nI kc), .int cm, .int su, .ref a_re, .int (nI kq), .ref a_dr])), (a_rw, .inl (cI, 256, .inl rw)), (a_sz, .inl (cI, 4, .inl (szf Ls)))]) (wr := [(a_st, .inl (cI, 2, .inl st)), (a_ak, .inl (cI, 2, .inl ak)), (a_ow, .inl (cI, 2, .inl ow)), (a_lo, .inl (cI, 2, .inl (upd lo e_ ((lo e_) - 1)))), (a_op, .inl (cZ, 4, .inl op))]) (ws1 := fun (u : (Nat → List Int32) × (Nat → Int32)) => [(h0, .inr (7, [.int tg, .ref a_st, .ref a_ck, .ref a_en, .ref a_au, .ref a_he, .ref a_qu, .ref a_lo, .ref a_ow, .ref a_fl, .ref a_ti, .ref a_gd, .ref a_ak, .ref a_sp, .ref a_se, .ref a_sd, .ref a_rw, .ref a_sz, .ref a_op, .ref a_th, .ref a_me, .ref a_pk, .int (nI kc), .int cm, .int su, .ref a_re, .int (nI kq), .ref a_dr])), (a_st, .inl (cI, 2, .inl st)), (a_ak, .inl (cI, 2, .inl ak)), (a_ow, .inl (cI, 2, .inl ow)), (a_lo, .inl (cI, 2, .inl (upd lo e_ ((lo e_) - 1)))), (a_op, .inl (cZ, 4, .inl op)), (a_rw, .inl (cI, 256, .inl u.2)), (a_sz, .inl (cI, 4, .inl (szf u.1)))]) (va_runV (As := [.int (nI (2 * e_))]) (rest := []) ⟨hx, hb, hml, hown, hts⟩ (c_Model_remove Ls (2 * e_) h0 a_st a_ck a_en a_au a_he a_qu a_lo a_ow a_fl a_ti a_gd a_ak a_sp a_se a_sd a_rw a_sz a_op a_th a_me a_pk a_re a_dr tg kc cm su kq rw hM (by omega) (Nat.pos_of_ne_zero fun h9 => h15 (by rw [h9]; decide)) H.size) (xcwV 1 hts ww_646 ww_643 ww_645 ws_Model_remove ww_8 (by decide +kernel) rfl rfl ⟨Nat.le_of_ble_eq_true rfl, Nat.le_of_ble_eq_true rfl⟩) (xPreV (ci := 7) (q0 := 0) (q := (R_Model, F_Model, 28)) (hP.sub [0, 6, 7] rfl) (hD.sub [0, 6, 7] (by decide) rfl) hK hN rfl rfl rfl) rfl rfl hl.1 rfl (lv_room (Nat.le_of_ble_eq_true rfl)) d_Model_choose_127 ⟨Nat.le_of_ble_eq_true rfl, Nat.le_of_ble_eq_true rfl⟩) hP hD hS hA [0, 6, 7] [1, 2, 3, 4, 5] [5, 0, 1, 2, 3, 4, 6, 7] rfl rfl (by decide) (by decide) (by decide) (fun _ => rfl) (fun r17 u17 H locs hw hP hD hS => ?_)
        obtain ⟨Ls17, rw17⟩ := u17
        obtain ⟨hw, hM_17⟩ := hw
        replace hP : va_P D vwCl [(h0, .inr (7, [.int tg, .ref a_st, .ref a_ck, .ref a_en, .ref a_au, .ref a_he, .ref a_qu, .ref a_lo, .ref a_ow, .ref a_fl, .ref a_ti, .ref a_gd, .ref a_ak, .ref a_sp, .ref a_se, .ref a_sd, .ref a_rw, .ref a_sz, .ref a_op, .ref a_th, .ref a_me, .ref a_pk, .int (nI kc), .int cm, .int su, .ref a_re, .int (nI kq), .ref a_dr])), (a_st, .inl (cI, 2, .inl st)), (a_ak, .inl (cI, 2, .inl ak)), (a_ow, .inl (cI, 2, .inl ow)), (a_lo, .inl (cI, 2, .inl (upd lo e_ ((lo e_) - 1)))), (a_op, .inl (cZ, 4, .inl op)), (a_rw, .inl (cI, 256, .inl rw17)), (a_sz, .inl (cI, 4, .inl (szf Ls17)))] H := hP
        replace hD : va_D A [(h0, .inr (7, [.int tg, .ref a_st, .ref a_ck, .ref a_en, .ref a_au, .ref a_he, .ref a_qu, .ref a_lo, .ref a_ow, .ref a_fl, .ref a_ti, .ref a_gd, .ref a_ak, .ref a_sp, .ref a_se, .ref a_sd, .ref a_rw, .ref a_sz, .ref a_op, .ref a_th, .ref a_me, .ref a_pk, .int (nI kc), .int cm, .int su, .ref a_re, .int (nI kq), .ref a_dr])), (a_st, .inl (cI, 2, .inl st)), (a_ak, .inl (cI, 2, .inl ak)), (a_ow, .inl (cI, 2, .inl ow)), (a_lo, .inl (cI, 2, .inl (upd lo e_ ((lo e_) - 1)))), (a_op, .inl (cZ, 4, .inl op)), (a_rw, .inl (cI, 256, .inl rw17)), (a_sz, .inl (cI, 4, .inl (szf Ls17)))] := hD
        have hw_17 := hw
        replace hq := hq.trans (bnd2_eq hw)
        try dsimp only at hq
        refine lv_istore_n hx hb d_Model_choose_130 rfl hl (by decide) rfl (fun ls hl => ?_)
        replace hl : lv_has ls 4 [(3, .int r17), (2, .int y2), (0, .ref h0), (1, .int (nI e_))] := hl
        refine lv_aload_n hx hb d_Model_choose_131 rfl (lv_at hl 2 rfl) ?_
        refine va_get (D := D) (ci := 7) (v := .ref a_op) (C := R_Model) (T := F_Model) (N := 28) hx hb hts hin_Model hown hK hP 0 rfl rfl 18 (by decide) (hts _ (xm ww_551)) (fun _ h9 => h9) rfl d_Model_choose_132 ?_
        refine lv_iconst (v := 2) hx hb d_Model_choose_135 rfl ?_
        refine lv_iload_n hx hb d_Model_choose_136 rfl (lv_at hl 3 rfl) ?_
        refine lv_imul hx hb d_Model_choose_137 ?_
        refine xtop (y := nI (2 * e_)) (pk_mul 2 e_) ?_
        refine lv_iload_n hx hb d_Model_choose_138 rfl (lv_at hl 0 rfl) ?_
        refine lv_sipush (v := 256) hx hb d_Model_choose_139 rfl ?_
        have J18 : ∀ (y19 : Int32) (H : Heap) (locs : List Loc), y19 = (if 256 ≤ r17 then (0) else (1)) → xB y19 → va_P D vwCl [(h0, .inr (7, [.int tg, .ref a_st, .ref a_ck, .ref a_en, .ref a_au, .ref a_he, .ref a_qu, .ref a_lo, .ref a_ow, .ref a_fl, .ref a_ti, .ref a_gd, .ref a_ak, .ref a_sp, .ref a_se, .ref a_sd, .ref a_rw, .ref a_sz, .ref a_op, .ref a_th, .ref a_me, .ref a_pk, .int (nI kc), .int cm, .int su, .ref a_re, .int (nI kq), .ref a_dr])), (a_st, .inl (cI, 2, .inl st)), (a_ak, .inl (cI, 2, .inl ak)), (a_ow, .inl (cI, 2, .inl ow)), (a_lo, .inl (cI, 2, .inl (upd lo e_ ((lo e_) - 1)))), (a_op, .inl (cZ, 4, .inl op)), (a_rw, .inl (cI, 256, .inl rw17)), (a_sz, .inl (cI, 4, .inl (szf Ls17)))] H → va_D A [(h0, .inr (7, [.int tg, .ref a_st, .ref a_ck, .ref a_en, .ref a_au, .ref a_he, .ref a_qu, .ref a_lo, .ref a_ow, .ref a_fl, .ref a_ti, .ref a_gd, .ref a_ak, .ref a_sp, .ref a_se, .ref a_sd, .ref a_rw, .ref a_sz, .ref a_op, .ref a_th, .ref a_me, .ref a_pk, .int (nI kc), .int cm, .int su, .ref a_re, .int (nI kq), .ref a_dr])), (a_st, .inl (cI, 2, .inl st)), (a_ak, .inl (cI, 2, .inl ak)), (a_ow, .inl (cI, 2, .inl ow)), (a_lo, .inl (cI, 2, .inl (upd lo e_ ((lo e_) - 1)))), (a_op, .inl (cZ, 4, .inl op)), (a_rw, .inl (cI, 256, .inl rw17)), (a_sz, .inl (cI, 4, .inl (szf Ls17)))] → va_S A s.heap H locs → W p l e rm_Model_choose s m args below meth c H locs 0 0 Q (F0 m 150 ls [.int y19, .int (nI (2 * e_)), .ref a_op]) := by
          intro y19 H locs hy19 hby19 hP hD hS
          replace hq := hq.trans (bnd_eq hy19)
          try dsimp only at hq
          refine xzast (k := (2 * e_)) hx hb hK hP hD hS 5 1 rfl rfl rfl (by omega) (by decide) hby19 d_Model_choose_150 (fun H locs hP hD hS => ?_)
          replace hP : va_P D vwCl [(h0, .inr (7, [.int tg, .ref a_st, .ref a_ck, .ref a_en, .ref a_au, .ref a_he, .ref a_qu, .ref a_lo, .ref a_ow, .ref a_fl, .ref a_ti, .ref a_gd, .ref a_ak, .ref a_sp, .ref a_se, .ref a_sd, .ref a_rw, .ref a_sz, .ref a_op, .ref a_th, .ref a_me, .ref a_pk, .int (nI kc), .int cm, .int su, .ref a_re, .int (nI kq), .ref a_dr])), (a_st, .inl (cI, 2, .inl st)), (a_ak, .inl (cI, 2, .inl ak)), (a_ow, .inl (cI, 2, .inl ow)), (a_lo, .inl (cI, 2, .inl (upd lo e_ ((lo e_) - 1)))), (a_op, .inl (cZ, 4, .inl (upd op (2 * e_) y19))), (a_rw, .inl (cI, 256, .inl rw17)), (a_sz, .inl (cI, 4, .inl (szf Ls17)))] H := hP
          replace hD : va_D A [(h0, .inr (7, [.int tg, .ref a_st, .ref a_ck, .ref a_en, .ref a_au, .ref a_he, .ref a_qu, .ref a_lo, .ref a_ow, .ref a_fl, .ref a_ti, .ref a_gd, .ref a_ak, .ref a_sp, .ref a_se, .ref a_sd, .ref a_rw, .ref a_sz, .ref a_op, .ref a_th, .ref a_me, .ref a_pk, .int (nI kc), .int cm, .int su, .ref a_re, .int (nI kq), .ref a_dr])), (a_st, .inl (cI, 2, .inl st)), (a_ak, .inl (cI, 2, .inl ak)), (a_ow, .inl (cI, 2, .inl ow)), (a_lo, .inl (cI, 2, .inl (upd lo e_ ((lo e_) - 1)))), (a_op, .inl (cZ, 4, .inl (upd op (2 * e_) y19))), (a_rw, .inl (cI, 256, .inl rw17)), (a_sz, .inl (cI, 4, .inl (szf Ls17)))] := hD
          refine lv_iload_n hx hb d_Model_choose_151 rfl (lv_at hl 0 rfl) ?_
          exact hret r17 (ak, ow, upd lo e_ ((lo e_) - 1), upd op (2 * e_) y19, Ls17, rw17) ⟨hq.symm, hM_17⟩ _ _ _ _ hP hD hS d_Model_choose_152
        have hv : ((if 256 ≤ r17 then (0) else (1)) : Int32) = (if 256 ≤ r17 then (0) else (1)) := rfl
        refine lv_icmp_ge (tgt := 149) hx hb d_Model_choose_142 rfl (fun h20 => ?_) (fun h20 => ?_)
        · replace hv := hv.trans (if_pos h20)
          refine lv_iconst (v := 0) hx hb d_Model_choose_149 rfl ?_
          exact J18 _ _ _ hv.symm (Or.inl rfl) hP hD hS
        replace hv := hv.trans (if_neg h20)
        refine lv_iconst (v := 1) hx hb d_Model_choose_145 rfl ?_
        refine lv_goto (tgt := 150) hx hb d_Model_choose_146 rfl ?_
        exact J18 _ _ _ hv.symm (Or.inr rfl) hP hD hS
      replace hq := hq.trans (if_neg h13)
      refine lv_aload_n hx hb d_Model_choose_70 rfl (lv_at hl 1 rfl) ?_
      refine va_get (D := D) (ci := 7) (v := .ref a_ow) (C := R_Model) (T := F_Model) (N := 28) hx hb hts hin_Model hown hK hP 0 rfl rfl 8 (by decide) (hts _ (xm ww_541)) (fun _ h9 => h9) rfl d_Model_choose_71 ?_
      refine lv_iload_n hx hb d_Model_choose_74 rfl (lv_at hl 2 rfl) ?_
      refine lv_aload_n hx hb d_Model_choose_75 rfl (lv_at hl 1 rfl) ?_
      refine va_get (D := D) (ci := 7) (v := .ref a_ow) (C := R_Model) (T := F_Model) (N := 28) hx hb hts hin_Model hown hK hP 0 rfl rfl 8 (by decide) (hts _ (xm ww_541)) (fun _ h9 => h9) rfl d_Model_choose_76 ?_
      refine lv_iload_n hx hb d_Model_choose_79 rfl (lv_at hl 2 rfl) ?_
      refine xiald (k := e_) hx hb hK hP 3 0 rfl rfl rfl he_ (by decide) d_Model_choose_80 ?_
      refine lv_bipush (v := 8) hx hb d_Model_choose_81 rfl ?_
      refine lv_iadd hx hb d_Model_choose_83 ?_
      refine xiast (k := e_) hx hb hK hP hD hS 3 0 rfl rfl rfl he_ (by decide) d_Model_choose_84 (fun H locs hP hD hS => ?_)
      replace hP : va_P D vwCl [(h0, .inr (7, [.int tg, .ref a_st, .ref a_ck, .ref a_en, .ref a_au, .ref a_he, .ref a_qu, .ref a_lo, .ref a_ow, .ref a_fl, .ref a_ti, .ref a_gd, .ref a_ak, .ref a_sp, .ref a_se, .ref a_sd, .ref a_rw, .ref a_sz, .ref a_op, .ref a_th, .ref a_me, .ref a_pk, .int (nI kc), .int cm, .int su, .ref a_re, .int (nI kq), .ref a_dr])), (a_st, .inl (cI, 2, .inl st)), (a_ak, .inl (cI, 2, .inl ak)), (a_ow, .inl (cI, 2, .inl (upd ow e_ ((ow e_) + 8)))), (a_lo, .inl (cI, 2, .inl lo)), (a_op, .inl (cZ, 4, .inl op)), (a_rw, .inl (cI, 256, .inl rw)), (a_sz, .inl (cI, 4, .inl (szf Ls)))] H := hP
      replace hD : va_D A [(h0, .inr (7, [.int tg, .ref a_st, .ref a_ck, .ref a_en, .ref a_au, .ref a_he, .ref a_qu, .ref a_lo, .ref a_ow, .ref a_fl, .ref a_ti, .ref a_gd, .ref a_ak, .ref a_sp, .ref a_se, .ref a_sd, .ref a_rw, .ref a_sz, .ref a_op, .ref a_th, .ref a_me, .ref a_pk, .int (nI kc), .int cm, .int su, .ref a_re, .int (nI kq), .ref a_dr])), (a_st, .inl (cI, 2, .inl st)), (a_ak, .inl (cI, 2, .inl ak)), (a_ow, .inl (cI, 2, .inl (upd ow e_ ((ow e_) + 8)))), (a_lo, .inl (cI, 2, .inl lo)), (a_op, .inl (cZ, 4, .inl op)), (a_rw, .inl (cI, 256, .inl rw)), (a_sz, .inl (cI, 4, .inl (szf Ls)))] := hD
      refine lv_sipush (v := 258) hx hb d_Model_choose_85 rfl ?_
      exact hret 258 (ak, upd ow e_ ((ow e_) + 8), lo, op, Ls, rw) ⟨hq.symm, hM⟩ _ _ _ _ hP hD hS d_Model_choose_88
    replace hq := hq.trans (if_neg h3)
    refine lv_aload_n hx hb d_Model_choose_20 rfl (lv_at hl 1 rfl) ?_
    refine va_get (D := D) (ci := 7) (v := .ref a_ak) (C := R_Model) (T := F_Model) (N := 28) hx hb hts hin_Model hown hK hP 0 rfl rfl 12 (by decide) (hts _ (xm ww_545)) (fun _ h9 => h9) rfl d_Model_choose_21 ?_
    refine lv_iload_n hx hb d_Model_choose_24 rfl (lv_at hl 2 rfl) ?_
    refine xiald (k := e_) hx hb hK hP 2 0 rfl rfl rfl he_ (by decide) d_Model_choose_25 ?_
    refine lv_bipush (v := (-3)) hx hb d_Model_choose_26 rfl ?_
    refine lv_icmp_eq (tgt := 52) hx hb d_Model_choose_28 rfl (fun h21 => ?_) (fun h21 => ?_)
    · replace hq := hq.trans (if_pos h21)
      refine lv_aload_n hx hb d_Model_choose_52 rfl (lv_at hl 1 rfl) ?_
      refine va_get (D := D) (ci := 7) (v := .ref a_st) (C := R_Model) (T := F_Model) (N := 28) hx hb hts hin_Model hown hK hP 0 rfl rfl 1 (by decide) (hts _ (xm ww_534)) (fun _ h9 => h9) rfl d_Model_choose_53 ?_
      refine lv_iload_n hx hb d_Model_choose_56 rfl (lv_at hl 2 rfl) ?_
      refine xiald (k := e_) hx hb hK hP 1 0 rfl rfl rfl he_ (by decide) d_Model_choose_57 ?_
      refine lv_iconst (v := 3) hx hb d_Model_choose_58 rfl ?_
      refine lv_icmp_eq (tgt := 89) hx hb d_Model_choose_59 rfl (fun h22 => ?_) (fun h22 => ?_)
      · replace hq := hq.trans (if_pos h22)
        refine lv_iload_n hx hb d_Model_choose_89 rfl (lv_at hl 0 rfl) ?_
        refine lv_if_eq (tgt := 153) hx hb d_Model_choose_90 rfl (fun h23 => ?_) (fun h23 => ?_)
        · replace hq := hq.trans (if_pos h23)
          refine lv_sipush (v := 259) hx hb d_Model_choose_153 rfl ?_
          exact hret 259 (ak, ow, lo, op, Ls, rw) ⟨hq.symm, hM⟩ _ _ _ _ hP hD hS d_Model_choose_156
        replace hq := hq.trans (if_neg h23)
        refine lv_aload_n hx hb d_Model_choose_93 rfl (lv_at hl 1 rfl) ?_
        refine va_get (D := D) (ci := 7) (v := .ref a_sz) (C := R_Model) (T := F_Model) (N := 28) hx hb hts hin_Model hown hK hP 0 rfl rfl 17 (by decide) (hts _ (xm ww_550)) (fun _ h9 => h9) rfl d_Model_choose_94 ?_
        refine lv_iconst (v := 2) hx hb d_Model_choose_97 rfl ?_
        refine lv_iload_n hx hb d_Model_choose_98 rfl (lv_at hl 2 rfl) ?_
        refine lv_imul hx hb d_Model_choose_99 ?_
        refine xtop (y := nI (2 * e_)) (pk_mul 2 e_) ?_
        refine xiald (k := (2 * e_)) hx hb hK hP 7 0 rfl rfl rfl (by omega) (by decide) d_Model_choose_100 ?_
        refine xtop (y := nI ((Ls (2 * e_)).length)) rfl ?_
        refine lv_if_le (tgt := 153) hx hb d_Model_choose_101 rfl (fun h24 => ?_) (fun h24 => ?_)
        · replace hq := hq.trans (if_pos h24)
          refine lv_sipush (v := 259) hx hb d_Model_choose_153 rfl ?_
          exact hret 259 (ak, ow, lo, op, Ls, rw) ⟨hq.symm, hM⟩ _ _ _ _ hP hD hS d_Model_choose_156
        replace hq := hq.trans (if_neg h24)
        refine lv_aload_n hx hb d_Model_choose_104 rfl (lv_at hl 1 rfl) ?_
        refine va_get (D := D) (ci := 7) (v := .ref a_lo) (C := R_Model) (T := F_Model) (N := 28) hx hb hts hin_Model hown hK hP 0 rfl rfl 7 (by decide) (hts _ (xm ww_540)) (fun _ h9 => h9) rfl d_Model_choose_105 ?_
        refine lv_iload_n hx hb d_Model_choose_108 rfl (lv_at hl 2 rfl) ?_
        refine xiald (k := e_) hx hb hK hP 4 0 rfl rfl rfl he_ (by decide) d_Model_choose_109 ?_
        refine lv_if_le (tgt := 153) hx hb d_Model_choose_110 rfl (fun h25 => ?_) (fun h25 => ?_)
        · replace hq := hq.trans (if_pos h25)
          refine lv_sipush (v := 259) hx hb d_Model_choose_153 rfl ?_
          exact hret 259 (ak, ow, lo, op, Ls, rw) ⟨hq.symm, hM⟩ _ _ _ _ hP hD hS d_Model_choose_156
        replace hq := hq.trans (if_neg h25)
        refine lv_aload_n hx hb d_Model_choose_113 rfl (lv_at hl 1 rfl) ?_
        refine va_get (D := D) (ci := 7) (v := .ref a_lo) (C := R_Model) (T := F_Model) (N := 28) hx hb hts hin_Model hown hK hP 0 rfl rfl 7 (by decide) (hts _ (xm ww_540)) (fun _ h9 => h9) rfl d_Model_choose_114 ?_
        refine lv_iload_n hx hb d_Model_choose_117 rfl (lv_at hl 2 rfl) ?_
        refine lv_dup2_11 hx hb d_Model_choose_118 rfl rfl ?_
        refine xiald (k := e_) hx hb hK hP 4 0 rfl rfl rfl he_ (by decide) d_Model_choose_119 ?_
        refine lv_iconst (v := 1) hx hb d_Model_choose_120 rfl ?_
        refine lv_isub hx hb d_Model_choose_121 ?_
        refine xiast (k := e_) hx hb hK hP hD hS 4 0 rfl rfl rfl he_ (by decide) d_Model_choose_122 (fun H locs hP hD hS => ?_)
        replace hP : va_P D vwCl [(h0, .inr (7, [.int tg, .ref a_st, .ref a_ck, .ref a_en, .ref a_au, .ref a_he, .ref a_qu, .ref a_lo, .ref a_ow, .ref a_fl, .ref a_ti, .ref a_gd, .ref a_ak, .ref a_sp, .ref a_se, .ref a_sd, .ref a_rw, .ref a_sz, .ref a_op, .ref a_th, .ref a_me, .ref a_pk, .int (nI kc), .int cm, .int su, .ref a_re, .int (nI kq), .ref a_dr])), (a_st, .inl (cI, 2, .inl st)), (a_ak, .inl (cI, 2, .inl ak)), (a_ow, .inl (cI, 2, .inl ow)), (a_lo, .inl (cI, 2, .inl (upd lo e_ ((lo e_) - 1)))), (a_op, .inl (cZ, 4, .inl op)), (a_rw, .inl (cI, 256, .inl rw)), (a_sz, .inl (cI, 4, .inl (szf Ls)))] H := hP
        replace hD : va_D A [(h0, .inr (7, [.int tg, .ref a_st, .ref a_ck, .ref a_en, .ref a_au, .ref a_he, .ref a_qu, .ref a_lo, .ref a_ow, .ref a_fl, .ref a_ti, .ref a_gd, .ref a_ak, .ref a_sp, .ref a_se, .ref a_sd, .ref a_rw, .ref a_sz, .ref a_op, .ref a_th, .ref a_me, .ref a_pk, .int (nI kc), .int cm, .int su, .ref a_re, .int (nI kq), .ref a_dr])), (a_st, .inl (cI, 2, .inl st)), (a_ak, .inl (cI, 2, .inl ak)), (a_ow, .inl (cI, 2, .inl ow)), (a_lo, .inl (cI, 2, .inl (upd lo e_ ((lo e_) - 1)))), (a_op, .inl (cZ, 4, .inl op)), (a_rw, .inl (cI, 256, .inl rw)), (a_sz, .inl (cI, 4, .inl (szf Ls)))] := hD
        refine lv_aload_n hx hb d_Model_choose_123 rfl (lv_at hl 1 rfl) ?_
        refine lv_iconst (v := 2) hx hb d_Model_choose_124 rfl ?_
        refine lv_iload_n hx hb d_Model_choose_125 rfl (lv_at hl 2 rfl) ?_
        refine lv_imul hx hb d_Model_choose_126 ?_
        refine xtop (y := nI (2 * e_)) (pk_mul 2 e_) ?_
        refine xcall_i (wc := [(h0, .inr (7, [.int tg, .ref a_st, .ref a_ck, .ref a_en, .ref a_au, .ref a_he, .ref a_qu, .ref a_lo, .ref a_ow, .ref a_fl, .ref a_ti, .ref a_gd, .ref a_ak, .ref a_sp, .ref a_se, .ref a_sd, .ref a_rw, .ref a_sz, .ref a_op, .ref a_th, .ref a_me, .ref a_pk, .int (nI kc), .int cm, .int su, .ref a_re, .int (nI kq), .ref a_dr])), (a_rw, .inl (cI, 256, .inl rw)), (a_sz, .inl (cI, 4, .inl (szf Ls)))]) (wr := [(a_st, .inl (cI, 2, .inl st)), (a_ak, .inl (cI, 2, .inl ak)), (a_ow, .inl (cI, 2, .inl ow)), (a_lo, .inl (cI, 2, .inl (upd lo e_ ((lo e_) - 1)))), (a_op, .inl (cZ, 4, .inl op))]) (ws1 := fun (u : (Nat → List Int32) × (Nat → Int32)) => [(h0, .inr (7, [.int tg, .ref a_st, .ref a_ck, .ref a_en, .ref a_au, .ref a_he, .ref a_qu, .ref a_lo, .ref a_ow, .ref a_fl, .ref a_ti, .ref a_gd, .ref a_ak, .ref a_sp, .ref a_se, .ref a_sd, .ref a_rw, .ref a_sz, .ref a_op, .ref a_th, .ref a_me, .ref a_pk, .int (nI kc), .int cm, .int su, .ref a_re, .int (nI kq), .ref a_dr])), (a_st, .inl (cI, 2, .inl st)), (a_ak, .inl (cI, 2, .inl ak)), (a_ow, .inl (cI, 2, .inl ow)), (a_lo, .inl (cI, 2, .inl (upd lo e_ ((lo e_) - 1)))), (a_op, .inl (cZ, 4, .inl op)), (a_rw, .inl (cI, 256, .inl u.2)), (a_sz, .inl (cI, 4, .inl (szf u.1)))]) (va_runV (As := [.int (nI (2 * e_))]) (rest := []) ⟨hx, hb, hml, hown, hts⟩ (c_Model_remove Ls (2 * e_) h0 a_st a_ck a_en a_au a_he a_qu a_lo a_ow a_fl a_ti a_gd a_ak a_sp a_se a_sd a_rw a_sz a_op a_th a_me a_pk a_re a_dr tg kc cm su kq rw hM (by omega) (Nat.pos_of_ne_zero fun h9 => h24 (by rw [h9]; decide)) H.size) (xcwV 1 hts ww_646 ww_643 ww_645 ws_Model_remove ww_8 (by decide +kernel) rfl rfl ⟨Nat.le_of_ble_eq_true rfl, Nat.le_of_ble_eq_true rfl⟩) (xPreV (ci := 7) (q0 := 0) (q := (R_Model, F_Model, 28)) (hP.sub [0, 6, 7] rfl) (hD.sub [0, 6, 7] (by decide) rfl) hK hN rfl rfl rfl) rfl rfl hl.1 rfl (lv_room (Nat.le_of_ble_eq_true rfl)) d_Model_choose_127 ⟨Nat.le_of_ble_eq_true rfl, Nat.le_of_ble_eq_true rfl⟩) hP hD hS hA [0, 6, 7] [1, 2, 3, 4, 5] [5, 0, 1, 2, 3, 4, 6, 7] rfl rfl (by decide) (by decide) (by decide) (fun _ => rfl) (fun r26 u26 H locs hw hP hD hS => ?_)
        obtain ⟨Ls26, rw26⟩ := u26
        obtain ⟨hw, hM_26⟩ := hw
        replace hP : va_P D vwCl [(h0, .inr (7, [.int tg, .ref a_st, .ref a_ck, .ref a_en, .ref a_au, .ref a_he, .ref a_qu, .ref a_lo, .ref a_ow, .ref a_fl, .ref a_ti, .ref a_gd, .ref a_ak, .ref a_sp, .ref a_se, .ref a_sd, .ref a_rw, .ref a_sz, .ref a_op, .ref a_th, .ref a_me, .ref a_pk, .int (nI kc), .int cm, .int su, .ref a_re, .int (nI kq), .ref a_dr])), (a_st, .inl (cI, 2, .inl st)), (a_ak, .inl (cI, 2, .inl ak)), (a_ow, .inl (cI, 2, .inl ow)), (a_lo, .inl (cI, 2, .inl (upd lo e_ ((lo e_) - 1)))), (a_op, .inl (cZ, 4, .inl op)), (a_rw, .inl (cI, 256, .inl rw26)), (a_sz, .inl (cI, 4, .inl (szf Ls26)))] H := hP
        replace hD : va_D A [(h0, .inr (7, [.int tg, .ref a_st, .ref a_ck, .ref a_en, .ref a_au, .ref a_he, .ref a_qu, .ref a_lo, .ref a_ow, .ref a_fl, .ref a_ti, .ref a_gd, .ref a_ak, .ref a_sp, .ref a_se, .ref a_sd, .ref a_rw, .ref a_sz, .ref a_op, .ref a_th, .ref a_me, .ref a_pk, .int (nI kc), .int cm, .int su, .ref a_re, .int (nI kq), .ref a_dr])), (a_st, .inl (cI, 2, .inl st)), (a_ak, .inl (cI, 2, .inl ak)), (a_ow, .inl (cI, 2, .inl ow)), (a_lo, .inl (cI, 2, .inl (upd lo e_ ((lo e_) - 1)))), (a_op, .inl (cZ, 4, .inl op)), (a_rw, .inl (cI, 256, .inl rw26)), (a_sz, .inl (cI, 4, .inl (szf Ls26)))] := hD
        have hw_26 := hw
        replace hq := hq.trans (bnd2_eq hw)
        try dsimp only at hq
        refine lv_istore_n hx hb d_Model_choose_130 rfl hl (by decide) rfl (fun ls hl => ?_)
        replace hl : lv_has ls 4 [(3, .int r26), (2, .int y2), (0, .ref h0), (1, .int (nI e_))] := hl
        refine lv_aload_n hx hb d_Model_choose_131 rfl (lv_at hl 2 rfl) ?_
        refine va_get (D := D) (ci := 7) (v := .ref a_op) (C := R_Model) (T := F_Model) (N := 28) hx hb hts hin_Model hown hK hP 0 rfl rfl 18 (by decide) (hts _ (xm ww_551)) (fun _ h9 => h9) rfl d_Model_choose_132 ?_
        refine lv_iconst (v := 2) hx hb d_Model_choose_135 rfl ?_
        refine lv_iload_n hx hb d_Model_choose_136 rfl (lv_at hl 3 rfl) ?_
        refine lv_imul hx hb d_Model_choose_137 ?_
        refine xtop (y := nI (2 * e_)) (pk_mul 2 e_) ?_
        refine lv_iload_n hx hb d_Model_choose_138 rfl (lv_at hl 0 rfl) ?_
        refine lv_sipush (v := 256) hx hb d_Model_choose_139 rfl ?_
        have J27 : ∀ (y28 : Int32) (H : Heap) (locs : List Loc), y28 = (if 256 ≤ r26 then (0) else (1)) → xB y28 → va_P D vwCl [(h0, .inr (7, [.int tg, .ref a_st, .ref a_ck, .ref a_en, .ref a_au, .ref a_he, .ref a_qu, .ref a_lo, .ref a_ow, .ref a_fl, .ref a_ti, .ref a_gd, .ref a_ak, .ref a_sp, .ref a_se, .ref a_sd, .ref a_rw, .ref a_sz, .ref a_op, .ref a_th, .ref a_me, .ref a_pk, .int (nI kc), .int cm, .int su, .ref a_re, .int (nI kq), .ref a_dr])), (a_st, .inl (cI, 2, .inl st)), (a_ak, .inl (cI, 2, .inl ak)), (a_ow, .inl (cI, 2, .inl ow)), (a_lo, .inl (cI, 2, .inl (upd lo e_ ((lo e_) - 1)))), (a_op, .inl (cZ, 4, .inl op)), (a_rw, .inl (cI, 256, .inl rw26)), (a_sz, .inl (cI, 4, .inl (szf Ls26)))] H → va_D A [(h0, .inr (7, [.int tg, .ref a_st, .ref a_ck, .ref a_en, .ref a_au, .ref a_he, .ref a_qu, .ref a_lo, .ref a_ow, .ref a_fl, .ref a_ti, .ref a_gd, .ref a_ak, .ref a_sp, .ref a_se, .ref a_sd, .ref a_rw, .ref a_sz, .ref a_op, .ref a_th, .ref a_me, .ref a_pk, .int (nI kc), .int cm, .int su, .ref a_re, .int (nI kq), .ref a_dr])), (a_st, .inl (cI, 2, .inl st)), (a_ak, .inl (cI, 2, .inl ak)), (a_ow, .inl (cI, 2, .inl ow)), (a_lo, .inl (cI, 2, .inl (upd lo e_ ((lo e_) - 1)))), (a_op, .inl (cZ, 4, .inl op)), (a_rw, .inl (cI, 256, .inl rw26)), (a_sz, .inl (cI, 4, .inl (szf Ls26)))] → va_S A s.heap H locs → W p l e rm_Model_choose s m args below meth c H locs 0 0 Q (F0 m 150 ls [.int y28, .int (nI (2 * e_)), .ref a_op]) := by
          intro y28 H locs hy28 hby28 hP hD hS
          replace hq := hq.trans (bnd_eq hy28)
          try dsimp only at hq
          refine xzast (k := (2 * e_)) hx hb hK hP hD hS 5 1 rfl rfl rfl (by omega) (by decide) hby28 d_Model_choose_150 (fun H locs hP hD hS => ?_)
          replace hP : va_P D vwCl [(h0, .inr (7, [.int tg, .ref a_st, .ref a_ck, .ref a_en, .ref a_au, .ref a_he, .ref a_qu, .ref a_lo, .ref a_ow, .ref a_fl, .ref a_ti, .ref a_gd, .ref a_ak, .ref a_sp, .ref a_se, .ref a_sd, .ref a_rw, .ref a_sz, .ref a_op, .ref a_th, .ref a_me, .ref a_pk, .int (nI kc), .int cm, .int su, .ref a_re, .int (nI kq), .ref a_dr])), (a_st, .inl (cI, 2, .inl st)), (a_ak, .inl (cI, 2, .inl ak)), (a_ow, .inl (cI, 2, .inl ow)), (a_lo, .inl (cI, 2, .inl (upd lo e_ ((lo e_) - 1)))), (a_op, .inl (cZ, 4, .inl (upd op (2 * e_) y28))), (a_rw, .inl (cI, 256, .inl rw26)), (a_sz, .inl (cI, 4, .inl (szf Ls26)))] H := hP
          replace hD : va_D A [(h0, .inr (7, [.int tg, .ref a_st, .ref a_ck, .ref a_en, .ref a_au, .ref a_he, .ref a_qu, .ref a_lo, .ref a_ow, .ref a_fl, .ref a_ti, .ref a_gd, .ref a_ak, .ref a_sp, .ref a_se, .ref a_sd, .ref a_rw, .ref a_sz, .ref a_op, .ref a_th, .ref a_me, .ref a_pk, .int (nI kc), .int cm, .int su, .ref a_re, .int (nI kq), .ref a_dr])), (a_st, .inl (cI, 2, .inl st)), (a_ak, .inl (cI, 2, .inl ak)), (a_ow, .inl (cI, 2, .inl ow)), (a_lo, .inl (cI, 2, .inl (upd lo e_ ((lo e_) - 1)))), (a_op, .inl (cZ, 4, .inl (upd op (2 * e_) y28))), (a_rw, .inl (cI, 256, .inl rw26)), (a_sz, .inl (cI, 4, .inl (szf Ls26)))] := hD
          refine lv_iload_n hx hb d_Model_choose_151 rfl (lv_at hl 0 rfl) ?_
          exact hret r26 (ak, ow, upd lo e_ ((lo e_) - 1), upd op (2 * e_) y28, Ls26, rw26) ⟨hq.symm, hM_26⟩ _ _ _ _ hP hD hS d_Model_choose_152
        have hv : ((if 256 ≤ r26 then (0) else (1)) : Int32) = (if 256 ≤ r26 then (0) else (1)) := rfl
        refine lv_icmp_ge (tgt := 149) hx hb d_Model_choose_142 rfl (fun h29 => ?_) (fun h29 => ?_)
        · replace hv := hv.trans (if_pos h29)
          refine lv_iconst (v := 0) hx hb d_Model_choose_149 rfl ?_
          exact J27 _ _ _ hv.symm (Or.inl rfl) hP hD hS
        replace hv := hv.trans (if_neg h29)
        refine lv_iconst (v := 1) hx hb d_Model_choose_145 rfl ?_
        refine lv_goto (tgt := 150) hx hb d_Model_choose_146 rfl ?_
        exact J27 _ _ _ hv.symm (Or.inr rfl) hP hD hS
      replace hq := hq.trans (if_neg h22)
      refine lv_aload_n hx hb d_Model_choose_62 rfl (lv_at hl 1 rfl) ?_
      refine lv_iload_n hx hb d_Model_choose_63 rfl (lv_at hl 2 rfl) ?_
      refine xcall_i (wc := [(h0, .inr (7, [.int tg, .ref a_st, .ref a_ck, .ref a_en, .ref a_au, .ref a_he, .ref a_qu, .ref a_lo, .ref a_ow, .ref a_fl, .ref a_ti, .ref a_gd, .ref a_ak, .ref a_sp, .ref a_se, .ref a_sd, .ref a_rw, .ref a_sz, .ref a_op, .ref a_th, .ref a_me, .ref a_pk, .int (nI kc), .int cm, .int su, .ref a_re, .int (nI kq), .ref a_dr])), (a_ow, .inl (cI, 2, .inl ow)), (a_sz, .inl (cI, 4, .inl (szf Ls)))]) (wr := [(a_st, .inl (cI, 2, .inl st)), (a_ak, .inl (cI, 2, .inl ak)), (a_lo, .inl (cI, 2, .inl lo)), (a_op, .inl (cZ, 4, .inl op)), (a_rw, .inl (cI, 256, .inl rw))]) (ws1 := fun (u : Unit) => [(h0, .inr (7, [.int tg, .ref a_st, .ref a_ck, .ref a_en, .ref a_au, .ref a_he, .ref a_qu, .ref a_lo, .ref a_ow, .ref a_fl, .ref a_ti, .ref a_gd, .ref a_ak, .ref a_sp, .ref a_se, .ref a_sd, .ref a_rw, .ref a_sz, .ref a_op, .ref a_th, .ref a_me, .ref a_pk, .int (nI kc), .int cm, .int su, .ref a_re, .int (nI kq), .ref a_dr])), (a_st, .inl (cI, 2, .inl st)), (a_ak, .inl (cI, 2, .inl ak)), (a_ow, .inl (cI, 2, .inl ow)), (a_lo, .inl (cI, 2, .inl lo)), (a_op, .inl (cZ, 4, .inl op)), (a_rw, .inl (cI, 256, .inl rw)), (a_sz, .inl (cI, 4, .inl (szf Ls)))]) (va_runV (As := [.int (nI e_)]) (rest := []) ⟨hx, hb, hml, hown, hts⟩ (c_Model_canLend ow Ls e_ h0 a_st a_ck a_en a_au a_he a_qu a_lo a_ow a_fl a_ti a_gd a_ak a_sp a_se a_sd a_rw a_sz a_op a_th a_me a_pk a_re a_dr tg kc cm su kq he_ H.size) (xcwV 1 hts ww_658 ww_655 ww_657 ws_Model_canLend ww_8 (by decide +kernel) rfl rfl ⟨Nat.le_of_ble_eq_true rfl, Nat.le_of_ble_eq_true rfl⟩) (xPreV (ci := 7) (q0 := 0) (q := (R_Model, F_Model, 28)) (hP.sub [0, 3, 7] rfl) (hD.sub [0, 3, 7] (by decide) rfl) hK hN rfl rfl rfl) rfl rfl hl.1 rfl (lv_room (Nat.le_of_ble_eq_true rfl)) d_Model_choose_64 ⟨Nat.le_of_ble_eq_true rfl, Nat.le_of_ble_eq_true rfl⟩) hP hD hS hA [0, 3, 7] [1, 2, 4, 5, 6] [5, 0, 1, 6, 2, 3, 4, 7] rfl rfl (by decide) (by decide) (by decide) (fun _ => rfl) (fun r30 u30 H locs hw hP hD hS => ?_)
      obtain ⟨hw, hbr_30⟩ := hw
      subst hw
      replace hP : va_P D vwCl [(h0, .inr (7, [.int tg, .ref a_st, .ref a_ck, .ref a_en, .ref a_au, .ref a_he, .ref a_qu, .ref a_lo, .ref a_ow, .ref a_fl, .ref a_ti, .ref a_gd, .ref a_ak, .ref a_sp, .ref a_se, .ref a_sd, .ref a_rw, .ref a_sz, .ref a_op, .ref a_th, .ref a_me, .ref a_pk, .int (nI kc), .int cm, .int su, .ref a_re, .int (nI kq), .ref a_dr])), (a_st, .inl (cI, 2, .inl st)), (a_ak, .inl (cI, 2, .inl ak)), (a_ow, .inl (cI, 2, .inl ow)), (a_lo, .inl (cI, 2, .inl lo)), (a_op, .inl (cZ, 4, .inl op)), (a_rw, .inl (cI, 256, .inl rw)), (a_sz, .inl (cI, 4, .inl (szf Ls)))] H := hP
      replace hD : va_D A [(h0, .inr (7, [.int tg, .ref a_st, .ref a_ck, .ref a_en, .ref a_au, .ref a_he, .ref a_qu, .ref a_lo, .ref a_ow, .ref a_fl, .ref a_ti, .ref a_gd, .ref a_ak, .ref a_sp, .ref a_se, .ref a_sd, .ref a_rw, .ref a_sz, .ref a_op, .ref a_th, .ref a_me, .ref a_pk, .int (nI kc), .int cm, .int su, .ref a_re, .int (nI kq), .ref a_dr])), (a_st, .inl (cI, 2, .inl st)), (a_ak, .inl (cI, 2, .inl ak)), (a_ow, .inl (cI, 2, .inl ow)), (a_lo, .inl (cI, 2, .inl lo)), (a_op, .inl (cZ, 4, .inl op)), (a_rw, .inl (cI, 256, .inl rw)), (a_sz, .inl (cI, 4, .inl (szf Ls)))] := hD
      refine lv_if_eq (tgt := 89) hx hb d_Model_choose_67 rfl (fun h31 => ?_) (fun h31 => ?_)
      · replace hq := hq.trans (if_pos h31)
        refine lv_iload_n hx hb d_Model_choose_89 rfl (lv_at hl 0 rfl) ?_
        refine lv_if_eq (tgt := 153) hx hb d_Model_choose_90 rfl (fun h32 => ?_) (fun h32 => ?_)
        · replace hq := hq.trans (if_pos h32)
          refine lv_sipush (v := 259) hx hb d_Model_choose_153 rfl ?_
          exact hret 259 (ak, ow, lo, op, Ls, rw) ⟨hq.symm, hM⟩ _ _ _ _ hP hD hS d_Model_choose_156
        replace hq := hq.trans (if_neg h32)
        refine lv_aload_n hx hb d_Model_choose_93 rfl (lv_at hl 1 rfl) ?_
        refine va_get (D := D) (ci := 7) (v := .ref a_sz) (C := R_Model) (T := F_Model) (N := 28) hx hb hts hin_Model hown hK hP 0 rfl rfl 17 (by decide) (hts _ (xm ww_550)) (fun _ h9 => h9) rfl d_Model_choose_94 ?_
        refine lv_iconst (v := 2) hx hb d_Model_choose_97 rfl ?_
        refine lv_iload_n hx hb d_Model_choose_98 rfl (lv_at hl 2 rfl) ?_
        refine lv_imul hx hb d_Model_choose_99 ?_
        refine xtop (y := nI (2 * e_)) (pk_mul 2 e_) ?_
        refine xiald (k := (2 * e_)) hx hb hK hP 7 0 rfl rfl rfl (by omega) (by decide) d_Model_choose_100 ?_
        refine xtop (y := nI ((Ls (2 * e_)).length)) rfl ?_
        refine lv_if_le (tgt := 153) hx hb d_Model_choose_101 rfl (fun h33 => ?_) (fun h33 => ?_)
        · replace hq := hq.trans (if_pos h33)
          refine lv_sipush (v := 259) hx hb d_Model_choose_153 rfl ?_
          exact hret 259 (ak, ow, lo, op, Ls, rw) ⟨hq.symm, hM⟩ _ _ _ _ hP hD hS d_Model_choose_156
        replace hq := hq.trans (if_neg h33)
        refine lv_aload_n hx hb d_Model_choose_104 rfl (lv_at hl 1 rfl) ?_
        refine va_get (D := D) (ci := 7) (v := .ref a_lo) (C := R_Model) (T := F_Model) (N := 28) hx hb hts hin_Model hown hK hP 0 rfl rfl 7 (by decide) (hts _ (xm ww_540)) (fun _ h9 => h9) rfl d_Model_choose_105 ?_
        refine lv_iload_n hx hb d_Model_choose_108 rfl (lv_at hl 2 rfl) ?_
        refine xiald (k := e_) hx hb hK hP 4 0 rfl rfl rfl he_ (by decide) d_Model_choose_109 ?_
        refine lv_if_le (tgt := 153) hx hb d_Model_choose_110 rfl (fun h34 => ?_) (fun h34 => ?_)
        · replace hq := hq.trans (if_pos h34)
          refine lv_sipush (v := 259) hx hb d_Model_choose_153 rfl ?_
          exact hret 259 (ak, ow, lo, op, Ls, rw) ⟨hq.symm, hM⟩ _ _ _ _ hP hD hS d_Model_choose_156
        replace hq := hq.trans (if_neg h34)
        refine lv_aload_n hx hb d_Model_choose_113 rfl (lv_at hl 1 rfl) ?_
        refine va_get (D := D) (ci := 7) (v := .ref a_lo) (C := R_Model) (T := F_Model) (N := 28) hx hb hts hin_Model hown hK hP 0 rfl rfl 7 (by decide) (hts _ (xm ww_540)) (fun _ h9 => h9) rfl d_Model_choose_114 ?_
        refine lv_iload_n hx hb d_Model_choose_117 rfl (lv_at hl 2 rfl) ?_
        refine lv_dup2_11 hx hb d_Model_choose_118 rfl rfl ?_
        refine xiald (k := e_) hx hb hK hP 4 0 rfl rfl rfl he_ (by decide) d_Model_choose_119 ?_
        refine lv_iconst (v := 1) hx hb d_Model_choose_120 rfl ?_
        refine lv_isub hx hb d_Model_choose_121 ?_
        refine xiast (k := e_) hx hb hK hP hD hS 4 0 rfl rfl rfl he_ (by decide) d_Model_choose_122 (fun H locs hP hD hS => ?_)
        replace hP : va_P D vwCl [(h0, .inr (7, [.int tg, .ref a_st, .ref a_ck, .ref a_en, .ref a_au, .ref a_he, .ref a_qu, .ref a_lo, .ref a_ow, .ref a_fl, .ref a_ti, .ref a_gd, .ref a_ak, .ref a_sp, .ref a_se, .ref a_sd, .ref a_rw, .ref a_sz, .ref a_op, .ref a_th, .ref a_me, .ref a_pk, .int (nI kc), .int cm, .int su, .ref a_re, .int (nI kq), .ref a_dr])), (a_st, .inl (cI, 2, .inl st)), (a_ak, .inl (cI, 2, .inl ak)), (a_ow, .inl (cI, 2, .inl ow)), (a_lo, .inl (cI, 2, .inl (upd lo e_ ((lo e_) - 1)))), (a_op, .inl (cZ, 4, .inl op)), (a_rw, .inl (cI, 256, .inl rw)), (a_sz, .inl (cI, 4, .inl (szf Ls)))] H := hP
        replace hD : va_D A [(h0, .inr (7, [.int tg, .ref a_st, .ref a_ck, .ref a_en, .ref a_au, .ref a_he, .ref a_qu, .ref a_lo, .ref a_ow, .ref a_fl, .ref a_ti, .ref a_gd, .ref a_ak, .ref a_sp, .ref a_se, .ref a_sd, .ref a_rw, .ref a_sz, .ref a_op, .ref a_th, .ref a_me, .ref a_pk, .int (nI kc), .int cm, .int su, .ref a_re, .int (nI kq), .ref a_dr])), (a_st, .inl (cI, 2, .inl st)), (a_ak, .inl (cI, 2, .inl ak)), (a_ow, .inl (cI, 2, .inl ow)), (a_lo, .inl (cI, 2, .inl (upd lo e_ ((lo e_) - 1)))), (a_op, .inl (cZ, 4, .inl op)), (a_rw, .inl (cI, 256, .inl rw)), (a_sz, .inl (cI, 4, .inl (szf Ls)))] := hD
        refine lv_aload_n hx hb d_Model_choose_123 rfl (lv_at hl 1 rfl) ?_
        refine lv_iconst (v := 2) hx hb d_Model_choose_124 rfl ?_
        refine lv_iload_n hx hb d_Model_choose_125 rfl (lv_at hl 2 rfl) ?_
        refine lv_imul hx hb d_Model_choose_126 ?_
        refine xtop (y := nI (2 * e_)) (pk_mul 2 e_) ?_
        refine xcall_i (wc := [(h0, .inr (7, [.int tg, .ref a_st, .ref a_ck, .ref a_en, .ref a_au, .ref a_he, .ref a_qu, .ref a_lo, .ref a_ow, .ref a_fl, .ref a_ti, .ref a_gd, .ref a_ak, .ref a_sp, .ref a_se, .ref a_sd, .ref a_rw, .ref a_sz, .ref a_op, .ref a_th, .ref a_me, .ref a_pk, .int (nI kc), .int cm, .int su, .ref a_re, .int (nI kq), .ref a_dr])), (a_rw, .inl (cI, 256, .inl rw)), (a_sz, .inl (cI, 4, .inl (szf Ls)))]) (wr := [(a_st, .inl (cI, 2, .inl st)), (a_ak, .inl (cI, 2, .inl ak)), (a_ow, .inl (cI, 2, .inl ow)), (a_lo, .inl (cI, 2, .inl (upd lo e_ ((lo e_) - 1)))), (a_op, .inl (cZ, 4, .inl op))]) (ws1 := fun (u : (Nat → List Int32) × (Nat → Int32)) => [(h0, .inr (7, [.int tg, .ref a_st, .ref a_ck, .ref a_en, .ref a_au, .ref a_he, .ref a_qu, .ref a_lo, .ref a_ow, .ref a_fl, .ref a_ti, .ref a_gd, .ref a_ak, .ref a_sp, .ref a_se, .ref a_sd, .ref a_rw, .ref a_sz, .ref a_op, .ref a_th, .ref a_me, .ref a_pk, .int (nI kc), .int cm, .int su, .ref a_re, .int (nI kq), .ref a_dr])), (a_st, .inl (cI, 2, .inl st)), (a_ak, .inl (cI, 2, .inl ak)), (a_ow, .inl (cI, 2, .inl ow)), (a_lo, .inl (cI, 2, .inl (upd lo e_ ((lo e_) - 1)))), (a_op, .inl (cZ, 4, .inl op)), (a_rw, .inl (cI, 256, .inl u.2)), (a_sz, .inl (cI, 4, .inl (szf u.1)))]) (va_runV (As := [.int (nI (2 * e_))]) (rest := []) ⟨hx, hb, hml, hown, hts⟩ (c_Model_remove Ls (2 * e_) h0 a_st a_ck a_en a_au a_he a_qu a_lo a_ow a_fl a_ti a_gd a_ak a_sp a_se a_sd a_rw a_sz a_op a_th a_me a_pk a_re a_dr tg kc cm su kq rw hM (by omega) (Nat.pos_of_ne_zero fun h9 => h33 (by rw [h9]; decide)) H.size) (xcwV 1 hts ww_646 ww_643 ww_645 ws_Model_remove ww_8 (by decide +kernel) rfl rfl ⟨Nat.le_of_ble_eq_true rfl, Nat.le_of_ble_eq_true rfl⟩) (xPreV (ci := 7) (q0 := 0) (q := (R_Model, F_Model, 28)) (hP.sub [0, 6, 7] rfl) (hD.sub [0, 6, 7] (by decide) rfl) hK hN rfl rfl rfl) rfl rfl hl.1 rfl (lv_room (Nat.le_of_ble_eq_true rfl)) d_Model_choose_127 ⟨Nat.le_of_ble_eq_true rfl, Nat.le_of_ble_eq_true rfl⟩) hP hD hS hA [0, 6, 7] [1, 2, 3, 4, 5] [5, 0, 1, 2, 3, 4, 6, 7] rfl rfl (by decide) (by decide) (by decide) (fun _ => rfl) (fun r35 u35 H locs hw hP hD hS => ?_)
        obtain ⟨Ls35, rw35⟩ := u35
        obtain ⟨hw, hM_35⟩ := hw
        replace hP : va_P D vwCl [(h0, .inr (7, [.int tg, .ref a_st, .ref a_ck, .ref a_en, .ref a_au, .ref a_he, .ref a_qu, .ref a_lo, .ref a_ow, .ref a_fl, .ref a_ti, .ref a_gd, .ref a_ak, .ref a_sp, .ref a_se, .ref a_sd, .ref a_rw, .ref a_sz, .ref a_op, .ref a_th, .ref a_me, .ref a_pk, .int (nI kc), .int cm, .int su, .ref a_re, .int (nI kq), .ref a_dr])), (a_st, .inl (cI, 2, .inl st)), (a_ak, .inl (cI, 2, .inl ak)), (a_ow, .inl (cI, 2, .inl ow)), (a_lo, .inl (cI, 2, .inl (upd lo e_ ((lo e_) - 1)))), (a_op, .inl (cZ, 4, .inl op)), (a_rw, .inl (cI, 256, .inl rw35)), (a_sz, .inl (cI, 4, .inl (szf Ls35)))] H := hP
        replace hD : va_D A [(h0, .inr (7, [.int tg, .ref a_st, .ref a_ck, .ref a_en, .ref a_au, .ref a_he, .ref a_qu, .ref a_lo, .ref a_ow, .ref a_fl, .ref a_ti, .ref a_gd, .ref a_ak, .ref a_sp, .ref a_se, .ref a_sd, .ref a_rw, .ref a_sz, .ref a_op, .ref a_th, .ref a_me, .ref a_pk, .int (nI kc), .int cm, .int su, .ref a_re, .int (nI kq), .ref a_dr])), (a_st, .inl (cI, 2, .inl st)), (a_ak, .inl (cI, 2, .inl ak)), (a_ow, .inl (cI, 2, .inl ow)), (a_lo, .inl (cI, 2, .inl (upd lo e_ ((lo e_) - 1)))), (a_op, .inl (cZ, 4, .inl op)), (a_rw, .inl (cI, 256, .inl rw35)), (a_sz, .inl (cI, 4, .inl (szf Ls35)))] := hD
        have hw_35 := hw
        replace hq := hq.trans (bnd2_eq hw)
        try dsimp only at hq
        refine lv_istore_n hx hb d_Model_choose_130 rfl hl (by decide) rfl (fun ls hl => ?_)
        replace hl : lv_has ls 4 [(3, .int r35), (2, .int y2), (0, .ref h0), (1, .int (nI e_))] := hl
        refine lv_aload_n hx hb d_Model_choose_131 rfl (lv_at hl 2 rfl) ?_
        refine va_get (D := D) (ci := 7) (v := .ref a_op) (C := R_Model) (T := F_Model) (N := 28) hx hb hts hin_Model hown hK hP 0 rfl rfl 18 (by decide) (hts _ (xm ww_551)) (fun _ h9 => h9) rfl d_Model_choose_132 ?_
        refine lv_iconst (v := 2) hx hb d_Model_choose_135 rfl ?_
        refine lv_iload_n hx hb d_Model_choose_136 rfl (lv_at hl 3 rfl) ?_
        refine lv_imul hx hb d_Model_choose_137 ?_
        refine xtop (y := nI (2 * e_)) (pk_mul 2 e_) ?_
        refine lv_iload_n hx hb d_Model_choose_138 rfl (lv_at hl 0 rfl) ?_
        refine lv_sipush (v := 256) hx hb d_Model_choose_139 rfl ?_
        have J36 : ∀ (y37 : Int32) (H : Heap) (locs : List Loc), y37 = (if 256 ≤ r35 then (0) else (1)) → xB y37 → va_P D vwCl [(h0, .inr (7, [.int tg, .ref a_st, .ref a_ck, .ref a_en, .ref a_au, .ref a_he, .ref a_qu, .ref a_lo, .ref a_ow, .ref a_fl, .ref a_ti, .ref a_gd, .ref a_ak, .ref a_sp, .ref a_se, .ref a_sd, .ref a_rw, .ref a_sz, .ref a_op, .ref a_th, .ref a_me, .ref a_pk, .int (nI kc), .int cm, .int su, .ref a_re, .int (nI kq), .ref a_dr])), (a_st, .inl (cI, 2, .inl st)), (a_ak, .inl (cI, 2, .inl ak)), (a_ow, .inl (cI, 2, .inl ow)), (a_lo, .inl (cI, 2, .inl (upd lo e_ ((lo e_) - 1)))), (a_op, .inl (cZ, 4, .inl op)), (a_rw, .inl (cI, 256, .inl rw35)), (a_sz, .inl (cI, 4, .inl (szf Ls35)))] H → va_D A [(h0, .inr (7, [.int tg, .ref a_st, .ref a_ck, .ref a_en, .ref a_au, .ref a_he, .ref a_qu, .ref a_lo, .ref a_ow, .ref a_fl, .ref a_ti, .ref a_gd, .ref a_ak, .ref a_sp, .ref a_se, .ref a_sd, .ref a_rw, .ref a_sz, .ref a_op, .ref a_th, .ref a_me, .ref a_pk, .int (nI kc), .int cm, .int su, .ref a_re, .int (nI kq), .ref a_dr])), (a_st, .inl (cI, 2, .inl st)), (a_ak, .inl (cI, 2, .inl ak)), (a_ow, .inl (cI, 2, .inl ow)), (a_lo, .inl (cI, 2, .inl (upd lo e_ ((lo e_) - 1)))), (a_op, .inl (cZ, 4, .inl op)), (a_rw, .inl (cI, 256, .inl rw35)), (a_sz, .inl (cI, 4, .inl (szf Ls35)))] → va_S A s.heap H locs → W p l e rm_Model_choose s m args below meth c H locs 0 0 Q (F0 m 150 ls [.int y37, .int (nI (2 * e_)), .ref a_op]) := by
          intro y37 H locs hy37 hby37 hP hD hS
          replace hq := hq.trans (bnd_eq hy37)
          try dsimp only at hq
          refine xzast (k := (2 * e_)) hx hb hK hP hD hS 5 1 rfl rfl rfl (by omega) (by decide) hby37 d_Model_choose_150 (fun H locs hP hD hS => ?_)
          replace hP : va_P D vwCl [(h0, .inr (7, [.int tg, .ref a_st, .ref a_ck, .ref a_en, .ref a_au, .ref a_he, .ref a_qu, .ref a_lo, .ref a_ow, .ref a_fl, .ref a_ti, .ref a_gd, .ref a_ak, .ref a_sp, .ref a_se, .ref a_sd, .ref a_rw, .ref a_sz, .ref a_op, .ref a_th, .ref a_me, .ref a_pk, .int (nI kc), .int cm, .int su, .ref a_re, .int (nI kq), .ref a_dr])), (a_st, .inl (cI, 2, .inl st)), (a_ak, .inl (cI, 2, .inl ak)), (a_ow, .inl (cI, 2, .inl ow)), (a_lo, .inl (cI, 2, .inl (upd lo e_ ((lo e_) - 1)))), (a_op, .inl (cZ, 4, .inl (upd op (2 * e_) y37))), (a_rw, .inl (cI, 256, .inl rw35)), (a_sz, .inl (cI, 4, .inl (szf Ls35)))] H := hP
          replace hD : va_D A [(h0, .inr (7, [.int tg, .ref a_st, .ref a_ck, .ref a_en, .ref a_au, .ref a_he, .ref a_qu, .ref a_lo, .ref a_ow, .ref a_fl, .ref a_ti, .ref a_gd, .ref a_ak, .ref a_sp, .ref a_se, .ref a_sd, .ref a_rw, .ref a_sz, .ref a_op, .ref a_th, .ref a_me, .ref a_pk, .int (nI kc), .int cm, .int su, .ref a_re, .int (nI kq), .ref a_dr])), (a_st, .inl (cI, 2, .inl st)), (a_ak, .inl (cI, 2, .inl ak)), (a_ow, .inl (cI, 2, .inl ow)), (a_lo, .inl (cI, 2, .inl (upd lo e_ ((lo e_) - 1)))), (a_op, .inl (cZ, 4, .inl (upd op (2 * e_) y37))), (a_rw, .inl (cI, 256, .inl rw35)), (a_sz, .inl (cI, 4, .inl (szf Ls35)))] := hD
          refine lv_iload_n hx hb d_Model_choose_151 rfl (lv_at hl 0 rfl) ?_
          exact hret r35 (ak, ow, upd lo e_ ((lo e_) - 1), upd op (2 * e_) y37, Ls35, rw35) ⟨hq.symm, hM_35⟩ _ _ _ _ hP hD hS d_Model_choose_152
        have hv : ((if 256 ≤ r35 then (0) else (1)) : Int32) = (if 256 ≤ r35 then (0) else (1)) := rfl
        refine lv_icmp_ge (tgt := 149) hx hb d_Model_choose_142 rfl (fun h38 => ?_) (fun h38 => ?_)
        · replace hv := hv.trans (if_pos h38)
          refine lv_iconst (v := 0) hx hb d_Model_choose_149 rfl ?_
          exact J36 _ _ _ hv.symm (Or.inl rfl) hP hD hS
        replace hv := hv.trans (if_neg h38)
        refine lv_iconst (v := 1) hx hb d_Model_choose_145 rfl ?_
        refine lv_goto (tgt := 150) hx hb d_Model_choose_146 rfl ?_
        exact J36 _ _ _ hv.symm (Or.inr rfl) hP hD hS
      replace hq := hq.trans (if_neg h31)
      refine lv_aload_n hx hb d_Model_choose_70 rfl (lv_at hl 1 rfl) ?_
      refine va_get (D := D) (ci := 7) (v := .ref a_ow) (C := R_Model) (T := F_Model) (N := 28) hx hb hts hin_Model hown hK hP 0 rfl rfl 8 (by decide) (hts _ (xm ww_541)) (fun _ h9 => h9) rfl d_Model_choose_71 ?_
      refine lv_iload_n hx hb d_Model_choose_74 rfl (lv_at hl 2 rfl) ?_
      refine lv_aload_n hx hb d_Model_choose_75 rfl (lv_at hl 1 rfl) ?_
      refine va_get (D := D) (ci := 7) (v := .ref a_ow) (C := R_Model) (T := F_Model) (N := 28) hx hb hts hin_Model hown hK hP 0 rfl rfl 8 (by decide) (hts _ (xm ww_541)) (fun _ h9 => h9) rfl d_Model_choose_76 ?_
      refine lv_iload_n hx hb d_Model_choose_79 rfl (lv_at hl 2 rfl) ?_
      refine xiald (k := e_) hx hb hK hP 3 0 rfl rfl rfl he_ (by decide) d_Model_choose_80 ?_
      refine lv_bipush (v := 8) hx hb d_Model_choose_81 rfl ?_
      refine lv_iadd hx hb d_Model_choose_83 ?_
      refine xiast (k := e_) hx hb hK hP hD hS 3 0 rfl rfl rfl he_ (by decide) d_Model_choose_84 (fun H locs hP hD hS => ?_)
      replace hP : va_P D vwCl [(h0, .inr (7, [.int tg, .ref a_st, .ref a_ck, .ref a_en, .ref a_au, .ref a_he, .ref a_qu, .ref a_lo, .ref a_ow, .ref a_fl, .ref a_ti, .ref a_gd, .ref a_ak, .ref a_sp, .ref a_se, .ref a_sd, .ref a_rw, .ref a_sz, .ref a_op, .ref a_th, .ref a_me, .ref a_pk, .int (nI kc), .int cm, .int su, .ref a_re, .int (nI kq), .ref a_dr])), (a_st, .inl (cI, 2, .inl st)), (a_ak, .inl (cI, 2, .inl ak)), (a_ow, .inl (cI, 2, .inl (upd ow e_ ((ow e_) + 8)))), (a_lo, .inl (cI, 2, .inl lo)), (a_op, .inl (cZ, 4, .inl op)), (a_rw, .inl (cI, 256, .inl rw)), (a_sz, .inl (cI, 4, .inl (szf Ls)))] H := hP
      replace hD : va_D A [(h0, .inr (7, [.int tg, .ref a_st, .ref a_ck, .ref a_en, .ref a_au, .ref a_he, .ref a_qu, .ref a_lo, .ref a_ow, .ref a_fl, .ref a_ti, .ref a_gd, .ref a_ak, .ref a_sp, .ref a_se, .ref a_sd, .ref a_rw, .ref a_sz, .ref a_op, .ref a_th, .ref a_me, .ref a_pk, .int (nI kc), .int cm, .int su, .ref a_re, .int (nI kq), .ref a_dr])), (a_st, .inl (cI, 2, .inl st)), (a_ak, .inl (cI, 2, .inl ak)), (a_ow, .inl (cI, 2, .inl (upd ow e_ ((ow e_) + 8)))), (a_lo, .inl (cI, 2, .inl lo)), (a_op, .inl (cZ, 4, .inl op)), (a_rw, .inl (cI, 256, .inl rw)), (a_sz, .inl (cI, 4, .inl (szf Ls)))] := hD
      refine lv_sipush (v := 258) hx hb d_Model_choose_85 rfl ?_
      exact hret 258 (ak, upd ow e_ ((ow e_) + 8), lo, op, Ls, rw) ⟨hq.symm, hM⟩ _ _ _ _ hP hD hS d_Model_choose_88
    replace hq := hq.trans (if_neg h21)
    refine lv_sipush (v := 260) hx hb d_Model_choose_31 rfl ?_
    refine lv_aload_n hx hb d_Model_choose_34 rfl (lv_at hl 1 rfl) ?_
    refine va_get (D := D) (ci := 7) (v := .ref a_ak) (C := R_Model) (T := F_Model) (N := 28) hx hb hts hin_Model hown hK hP 0 rfl rfl 12 (by decide) (hts _ (xm ww_545)) (fun _ h9 => h9) rfl d_Model_choose_35 ?_
    refine lv_iload_n hx hb d_Model_choose_38 rfl (lv_at hl 2 rfl) ?_
    refine xiald (k := e_) hx hb hK hP 2 0 rfl rfl rfl he_ (by decide) d_Model_choose_39 ?_
    refine lv_iadd hx hb d_Model_choose_40 ?_
    refine lv_istore_n hx hb d_Model_choose_41 rfl hl (by decide) rfl (fun ls hl => ?_)
    replace hl : lv_has ls 4 [(3, .int (260 + (ak e_))), (2, .int y2), (0, .ref h0), (1, .int (nI e_))] := hl
    refine lv_aload_n hx hb d_Model_choose_42 rfl (lv_at hl 2 rfl) ?_
    refine va_get (D := D) (ci := 7) (v := .ref a_ak) (C := R_Model) (T := F_Model) (N := 28) hx hb hts hin_Model hown hK hP 0 rfl rfl 12 (by decide) (hts _ (xm ww_545)) (fun _ h9 => h9) rfl d_Model_choose_43 ?_
    refine lv_iload_n hx hb d_Model_choose_46 rfl (lv_at hl 3 rfl) ?_
    refine lv_bipush (v := (-3)) hx hb d_Model_choose_47 rfl ?_
    refine xiast (k := e_) hx hb hK hP hD hS 2 0 rfl rfl rfl he_ (by decide) d_Model_choose_49 (fun H locs hP hD hS => ?_)
    replace hP : va_P D vwCl [(h0, .inr (7, [.int tg, .ref a_st, .ref a_ck, .ref a_en, .ref a_au, .ref a_he, .ref a_qu, .ref a_lo, .ref a_ow, .ref a_fl, .ref a_ti, .ref a_gd, .ref a_ak, .ref a_sp, .ref a_se, .ref a_sd, .ref a_rw, .ref a_sz, .ref a_op, .ref a_th, .ref a_me, .ref a_pk, .int (nI kc), .int cm, .int su, .ref a_re, .int (nI kq), .ref a_dr])), (a_st, .inl (cI, 2, .inl st)), (a_ak, .inl (cI, 2, .inl (upd ak e_ (-3)))), (a_ow, .inl (cI, 2, .inl ow)), (a_lo, .inl (cI, 2, .inl lo)), (a_op, .inl (cZ, 4, .inl op)), (a_rw, .inl (cI, 256, .inl rw)), (a_sz, .inl (cI, 4, .inl (szf Ls)))] H := hP
    replace hD : va_D A [(h0, .inr (7, [.int tg, .ref a_st, .ref a_ck, .ref a_en, .ref a_au, .ref a_he, .ref a_qu, .ref a_lo, .ref a_ow, .ref a_fl, .ref a_ti, .ref a_gd, .ref a_ak, .ref a_sp, .ref a_se, .ref a_sd, .ref a_rw, .ref a_sz, .ref a_op, .ref a_th, .ref a_me, .ref a_pk, .int (nI kc), .int cm, .int su, .ref a_re, .int (nI kq), .ref a_dr])), (a_st, .inl (cI, 2, .inl st)), (a_ak, .inl (cI, 2, .inl (upd ak e_ (-3)))), (a_ow, .inl (cI, 2, .inl ow)), (a_lo, .inl (cI, 2, .inl lo)), (a_op, .inl (cZ, 4, .inl op)), (a_rw, .inl (cI, 256, .inl rw)), (a_sz, .inl (cI, 4, .inl (szf Ls)))] := hD
    refine lv_iload_n hx hb d_Model_choose_50 rfl (lv_at hl 0 rfl) ?_
    exact hret (260 + (ak e_)) (upd ak e_ (-3), ow, lo, op, Ls, rw) ⟨hq.symm, hM⟩ _ _ _ _ hP hD hS d_Model_choose_51
  have hv : ((if (st e_) = 5 then (1) else (0)) : Int32) = (if (st e_) = 5 then (1) else (0)) := rfl
  refine lv_icmp_ne (tgt := 14) hx hb d_Model_choose_7 rfl (fun h39 => ?_) (fun h39 => ?_)
  · replace hv := hv.trans (if_neg h39)
    refine lv_iconst (v := 0) hx hb d_Model_choose_14 rfl ?_
    exact J1 _ _ _ hv.symm (Or.inl rfl) hP hD hS
  replace hv := hv.trans (if_pos h39)
  refine lv_iconst (v := 1) hx hb d_Model_choose_10 rfl ?_
  refine lv_goto (tgt := 15) hx hb d_Model_choose_11 rfl ?_
  exact J1 _ _ _ hv.symm (Or.inr rfl) hP hD hS

def s_Model_send (st : Nat → Int32) (ak : Nat → Int32) (ow : Nat → Int32) (lo : Nat → Int32) (op : Nat → Int32) (Ls : Nat → List Int32) (se : Nat → Int32) (sd : Nat → Int32) (sp : Nat → Int32) (e_ : Nat) : (Nat → Int32) × (Nat → Int32) × (Nat → Int32) × (Nat → Int32) × (Nat → List Int32) × (Nat → Int32) × (Nat → Int32) × (Nat → Int32) := bnd (α := Int32) (if (st e_) < 3 then (0) else (1)) (fun y2 => if y2 = 0 then (bnd (α := Int32) (if y2 = 0 then (0) else (if (sp e_) = 0 then (0) else (1))) (fun y5 => bnd (α := Int32) (if (sp e_) = 0 then (0) else (if y2 = 0 then (1) else (0))) (fun y7 => (ak, ow, lo, op, Ls, upd se e_ (-3), upd sd e_ y5, upd sp e_ y7)))) else (bnd6 (s_Model_choose st ak ow lo op Ls e_) (fun r12 ak12 ow12 lo12 op12 Ls12 => bnd (α := Int32) (if y2 = 0 then (0) else (if (sp e_) = 0 then (0) else (1))) (fun y14 => bnd (α := Int32) (if (sp e_) = 0 then (0) else (if y2 = 0 then (1) else (0))) (fun y16 => (ak12, ow12, lo12, op12, Ls12, upd se e_ r12, upd sd e_ y14, upd sp e_ y16))))))
abbrev rm_Model_send : Room := { frames := 2, cells := 0, slots := 0, locals := 46 }
set_option maxHeartbeats 4000000 in
set_option maxRecDepth 100000 in
theorem c_Model_send {l : Launch} {D : va_G} {cI cZ : ClassId} (st : Nat → Int32) (ak : Nat → Int32) (ow : Nat → Int32) (lo : Nat → Int32) (op : Nat → Int32) (Ls : Nat → List Int32) (se : Nat → Int32) (sd : Nat → Int32) (sp : Nat → Int32) (e_ : Nat) (h0 : Nat) (a_st : Nat) (a_ck : Nat) (a_en : Nat) (a_au : Nat) (a_he : Nat) (a_qu : Nat) (a_lo : Nat) (a_ow : Nat) (a_fl : Nat) (a_ti : Nat) (a_gd : Nat) (a_ak : Nat) (a_sp : Nat) (a_se : Nat) (a_sd : Nat) (a_rw : Nat) (a_sz : Nat) (a_op : Nat) (a_th : Nat) (a_me : Nat) (a_pk : Nat) (a_re : Nat) (a_dr : Nat) (tg : Int32) (kc : Nat) (cm : Int32) (su : Int32) (kq : Nat) (rw : Nat → Int32) (hM : RepM rw Ls) (he_ : e_ < 2) (sz : Nat) : Met l y_Model_send (w_Model_send) rm_Model_send (va_Pc [.ref h0, .int (nI e_)] (xPre xNs D vwCl cI cZ [(h0, .inr (7, [.int tg, .ref a_st, .ref a_ck, .ref a_en, .ref a_au, .ref a_he, .ref a_qu, .ref a_lo, .ref a_ow, .ref a_fl, .ref a_ti, .ref a_gd, .ref a_ak, .ref a_sp, .ref a_se, .ref a_sd, .ref a_rw, .ref a_sz, .ref a_op, .ref a_th, .ref a_me, .ref a_pk, .int (nI kc), .int cm, .int su, .ref a_re, .int (nI kq), .ref a_dr])), (a_st, .inl (cI, 2, .inl st)), (a_ak, .inl (cI, 2, .inl ak)), (a_ow, .inl (cI, 2, .inl ow)), (a_lo, .inl (cI, 2, .inl lo)), (a_op, .inl (cZ, 4, .inl op)), (a_rw, .inl (cI, 256, .inl rw)), (a_sz, .inl (cI, 4, .inl (szf Ls))), (a_se, .inl (cI, 2, .inl se)), (a_sd, .inl (cZ, 2, .inl sd)), (a_sp, .inl (cZ, 2, .inl sp))] sz)) (va_Qv (fun (u : (Nat → Int32) × (Nat → Int32) × (Nat → Int32) × (Nat → Int32) × (Nat → List Int32) × (Nat → Int32) × (Nat → Int32) × (Nat → Int32) × (Nat → Int32)) => (u.1, u.2.1, u.2.2.1, u.2.2.2.1, u.2.2.2.2.1, u.2.2.2.2.2.1, u.2.2.2.2.2.2.1, u.2.2.2.2.2.2.2.1) = s_Model_send st ak ow lo op Ls se sd sp e_ ∧ RepM u.2.2.2.2.2.2.2.2 u.2.2.2.2.1) (fun u t9 => xAt D vwCl (va_A [(h0, .inr (7, [.int tg, .ref a_st, .ref a_ck, .ref a_en, .ref a_au, .ref a_he, .ref a_qu, .ref a_lo, .ref a_ow, .ref a_fl, .ref a_ti, .ref a_gd, .ref a_ak, .ref a_sp, .ref a_se, .ref a_sd, .ref a_rw, .ref a_sz, .ref a_op, .ref a_th, .ref a_me, .ref a_pk, .int (nI kc), .int cm, .int su, .ref a_re, .int (nI kq), .ref a_dr])), (a_st, .inl (cI, 2, .inl st)), (a_ak, .inl (cI, 2, .inl ak)), (a_ow, .inl (cI, 2, .inl ow)), (a_lo, .inl (cI, 2, .inl lo)), (a_op, .inl (cZ, 4, .inl op)), (a_rw, .inl (cI, 256, .inl rw)), (a_sz, .inl (cI, 4, .inl (szf Ls))), (a_se, .inl (cI, 2, .inl se)), (a_sd, .inl (cZ, 2, .inl sd)), (a_sp, .inl (cZ, 2, .inl sp))] sz) [(h0, .inr (7, [.int tg, .ref a_st, .ref a_ck, .ref a_en, .ref a_au, .ref a_he, .ref a_qu, .ref a_lo, .ref a_ow, .ref a_fl, .ref a_ti, .ref a_gd, .ref a_ak, .ref a_sp, .ref a_se, .ref a_sd, .ref a_rw, .ref a_sz, .ref a_op, .ref a_th, .ref a_me, .ref a_pk, .int (nI kc), .int cm, .int su, .ref a_re, .int (nI kq), .ref a_dr])), (a_st, .inl (cI, 2, .inl st)), (a_ak, .inl (cI, 2, .inl u.1)), (a_ow, .inl (cI, 2, .inl u.2.1)), (a_lo, .inl (cI, 2, .inl u.2.2.1)), (a_op, .inl (cZ, 4, .inl u.2.2.2.1)), (a_rw, .inl (cI, 256, .inl u.2.2.2.2.2.2.2.2)), (a_sz, .inl (cI, 4, .inl (szf u.2.2.2.2.1))), (a_se, .inl (cI, 2, .inl u.2.2.2.2.2.1)), (a_sd, .inl (cZ, 2, .inl u.2.2.2.2.2.2.1)), (a_sp, .inl (cZ, 2, .inl u.2.2.2.2.2.2.2.1))] t9) (va_A [(h0, .inr (7, [.int tg, .ref a_st, .ref a_ck, .ref a_en, .ref a_au, .ref a_he, .ref a_qu, .ref a_lo, .ref a_ow, .ref a_fl, .ref a_ti, .ref a_gd, .ref a_ak, .ref a_sp, .ref a_se, .ref a_sd, .ref a_rw, .ref a_sz, .ref a_op, .ref a_th, .ref a_me, .ref a_pk, .int (nI kc), .int cm, .int su, .ref a_re, .int (nI kq), .ref a_dr])), (a_st, .inl (cI, 2, .inl st)), (a_ak, .inl (cI, 2, .inl ak)), (a_ow, .inl (cI, 2, .inl ow)), (a_lo, .inl (cI, 2, .inl lo)), (a_op, .inl (cZ, 4, .inl op)), (a_rw, .inl (cI, 256, .inl rw)), (a_sz, .inl (cI, 4, .inl (szf Ls))), (a_se, .inl (cI, 2, .inl se)), (a_sd, .inl (cZ, 2, .inl sd)), (a_sp, .inl (cZ, 2, .inl sp))] sz)) 0 0 (va_A [(h0, .inr (7, [.int tg, .ref a_st, .ref a_ck, .ref a_en, .ref a_au, .ref a_he, .ref a_qu, .ref a_lo, .ref a_ow, .ref a_fl, .ref a_ti, .ref a_gd, .ref a_ak, .ref a_sp, .ref a_se, .ref a_sd, .ref a_rw, .ref a_sz, .ref a_op, .ref a_th, .ref a_me, .ref a_pk, .int (nI kc), .int cm, .int su, .ref a_re, .int (nI kq), .ref a_dr])), (a_st, .inl (cI, 2, .inl st)), (a_ak, .inl (cI, 2, .inl ak)), (a_ow, .inl (cI, 2, .inl ow)), (a_lo, .inl (cI, 2, .inl lo)), (a_op, .inl (cZ, 4, .inl op)), (a_rw, .inl (cI, 256, .inl rw)), (a_sz, .inl (cI, 4, .inl (szf Ls))), (a_se, .inl (cI, 2, .inl se)), (a_sd, .inl (cZ, 2, .inl sd)), (a_sp, .inl (cZ, 2, .inl sp))] sz) := by
  refine xBody_v (S := (Nat → Int32) × (Nat → Int32) × (Nat → Int32) × (Nat → Int32) × (Nat → List Int32) × (Nat → Int32) × (Nat → Int32) × (Nat → Int32) × (Nat → Int32)) (cc := b_Model_send) (maxL := 3) (by decide) rfl (Nat.le_of_ble_eq_true rfl) ?_
  intro p e s m args below meth c A H ls Q hx hb hml hin hts hown hP hD hK hN hS hA hl hret
  replace hl : lv_has ls 3 [(0, .ref h0), (1, .int (nI e_))] := hl
  have hin_Model : ∀ w ∈ u_ws R_Model F_Model 28, w ∈ (w_Model_send) := (fun w h => xm (lay_Model w h))
  have hq : s_Model_send st ak ow lo op Ls se sd sp e_ = (bnd (α := Int32) (if (st e_) < 3 then (0) else (1)) (fun y2 => if y2 = 0 then (bnd (α := Int32) (if y2 = 0 then (0) else (if (sp e_) = 0 then (0) else (1))) (fun y5 => bnd (α := Int32) (if (sp e_) = 0 then (0) else (if y2 = 0 then (1) else (0))) (fun y7 => (ak, ow, lo, op, Ls, upd se e_ (-3), upd sd e_ y5, upd sp e_ y7)))) else (bnd6 (s_Model_choose st ak ow lo op Ls e_) (fun r12 ak12 ow12 lo12 op12 Ls12 => bnd (α := Int32) (if y2 = 0 then (0) else (if (sp e_) = 0 then (0) else (1))) (fun y14 => bnd (α := Int32) (if (sp e_) = 0 then (0) else (if y2 = 0 then (1) else (0))) (fun y16 => (ak12, ow12, lo12, op12, Ls12, upd se e_ r12, upd sd e_ y14, upd sp e_ y16))))))) := rfl
  refine lv_aload_n hx hb d_Model_send_0 rfl (lv_at hl 0 rfl) ?_
  refine va_get (D := D) (ci := 7) (v := .ref a_st) (C := R_Model) (T := F_Model) (N := 28) hx hb hts hin_Model hown hK hP 0 rfl rfl 1 (by decide) (hts _ (xm ww_534)) (fun _ h9 => h9) rfl d_Model_send_1 ?_
  refine lv_iload_n hx hb d_Model_send_4 rfl (lv_at hl 1 rfl) ?_
  refine xiald (k := e_) hx hb hK hP 1 0 rfl rfl rfl he_ (by decide) d_Model_send_5 ?_
  refine lv_iconst (v := 3) hx hb d_Model_send_6 rfl ?_
  have J1 : ∀ (y2 : Int32) (H : Heap) (locs : List Loc), y2 = (if (st e_) < 3 then (0) else (1)) → xB y2 → va_P D vwCl [(h0, .inr (7, [.int tg, .ref a_st, .ref a_ck, .ref a_en, .ref a_au, .ref a_he, .ref a_qu, .ref a_lo, .ref a_ow, .ref a_fl, .ref a_ti, .ref a_gd, .ref a_ak, .ref a_sp, .ref a_se, .ref a_sd, .ref a_rw, .ref a_sz, .ref a_op, .ref a_th, .ref a_me, .ref a_pk, .int (nI kc), .int cm, .int su, .ref a_re, .int (nI kq), .ref a_dr])), (a_st, .inl (cI, 2, .inl st)), (a_ak, .inl (cI, 2, .inl ak)), (a_ow, .inl (cI, 2, .inl ow)), (a_lo, .inl (cI, 2, .inl lo)), (a_op, .inl (cZ, 4, .inl op)), (a_rw, .inl (cI, 256, .inl rw)), (a_sz, .inl (cI, 4, .inl (szf Ls))), (a_se, .inl (cI, 2, .inl se)), (a_sd, .inl (cZ, 2, .inl sd)), (a_sp, .inl (cZ, 2, .inl sp))] H → va_D A [(h0, .inr (7, [.int tg, .ref a_st, .ref a_ck, .ref a_en, .ref a_au, .ref a_he, .ref a_qu, .ref a_lo, .ref a_ow, .ref a_fl, .ref a_ti, .ref a_gd, .ref a_ak, .ref a_sp, .ref a_se, .ref a_sd, .ref a_rw, .ref a_sz, .ref a_op, .ref a_th, .ref a_me, .ref a_pk, .int (nI kc), .int cm, .int su, .ref a_re, .int (nI kq), .ref a_dr])), (a_st, .inl (cI, 2, .inl st)), (a_ak, .inl (cI, 2, .inl ak)), (a_ow, .inl (cI, 2, .inl ow)), (a_lo, .inl (cI, 2, .inl lo)), (a_op, .inl (cZ, 4, .inl op)), (a_rw, .inl (cI, 256, .inl rw)), (a_sz, .inl (cI, 4, .inl (szf Ls))), (a_se, .inl (cI, 2, .inl se)), (a_sd, .inl (cZ, 2, .inl sd)), (a_sp, .inl (cZ, 2, .inl sp))] → va_S A s.heap H locs → W p l e rm_Model_send s m args below meth c H locs 0 0 Q (F0 m 15 ls [.int y2]) := by
    intro y2 H locs hy2 hby2 hP hD hS
    replace hq := hq.trans (bnd_eq hy2)
    try dsimp only at hq
    refine lv_istore_n hx hb d_Model_send_15 rfl hl (by decide) rfl (fun ls hl => ?_)
    replace hl : lv_has ls 3 [(2, .int y2), (0, .ref h0), (1, .int (nI e_))] := hl
    refine lv_aload_n hx hb d_Model_send_16 rfl (lv_at hl 1 rfl) ?_
    refine va_get (D := D) (ci := 7) (v := .ref a_se) (C := R_Model) (T := F_Model) (N := 28) hx hb hts hin_Model hown hK hP 0 rfl rfl 14 (by decide) (hts _ (xm ww_547)) (fun _ h9 => h9) rfl d_Model_send_17 ?_
    refine lv_iload_n hx hb d_Model_send_20 rfl (lv_at hl 2 rfl) ?_
    refine lv_iload_n hx hb d_Model_send_21 rfl (lv_at hl 0 rfl) ?_
    refine lv_if_eq (tgt := 33) hx hb d_Model_send_22 rfl (fun h3 => ?_) (fun h3 => ?_)
    · replace hq := hq.trans (if_pos h3)
      refine lv_bipush (v := (-3)) hx hb d_Model_send_33 rfl ?_
      refine xiast (k := e_) hx hb hK hP hD hS 8 0 rfl rfl rfl he_ (by decide) d_Model_send_35 (fun H locs hP hD hS => ?_)
      replace hP : va_P D vwCl [(h0, .inr (7, [.int tg, .ref a_st, .ref a_ck, .ref a_en, .ref a_au, .ref a_he, .ref a_qu, .ref a_lo, .ref a_ow, .ref a_fl, .ref a_ti, .ref a_gd, .ref a_ak, .ref a_sp, .ref a_se, .ref a_sd, .ref a_rw, .ref a_sz, .ref a_op, .ref a_th, .ref a_me, .ref a_pk, .int (nI kc), .int cm, .int su, .ref a_re, .int (nI kq), .ref a_dr])), (a_st, .inl (cI, 2, .inl st)), (a_ak, .inl (cI, 2, .inl ak)), (a_ow, .inl (cI, 2, .inl ow)), (a_lo, .inl (cI, 2, .inl lo)), (a_op, .inl (cZ, 4, .inl op)), (a_rw, .inl (cI, 256, .inl rw)), (a_sz, .inl (cI, 4, .inl (szf Ls))), (a_se, .inl (cI, 2, .inl (upd se e_ (-3)))), (a_sd, .inl (cZ, 2, .inl sd)), (a_sp, .inl (cZ, 2, .inl sp))] H := hP
      replace hD : va_D A [(h0, .inr (7, [.int tg, .ref a_st, .ref a_ck, .ref a_en, .ref a_au, .ref a_he, .ref a_qu, .ref a_lo, .ref a_ow, .ref a_fl, .ref a_ti, .ref a_gd, .ref a_ak, .ref a_sp, .ref a_se, .ref a_sd, .ref a_rw, .ref a_sz, .ref a_op, .ref a_th, .ref a_me, .ref a_pk, .int (nI kc), .int cm, .int su, .ref a_re, .int (nI kq), .ref a_dr])), (a_st, .inl (cI, 2, .inl st)), (a_ak, .inl (cI, 2, .inl ak)), (a_ow, .inl (cI, 2, .inl ow)), (a_lo, .inl (cI, 2, .inl lo)), (a_op, .inl (cZ, 4, .inl op)), (a_rw, .inl (cI, 256, .inl rw)), (a_sz, .inl (cI, 4, .inl (szf Ls))), (a_se, .inl (cI, 2, .inl (upd se e_ (-3)))), (a_sd, .inl (cZ, 2, .inl sd)), (a_sp, .inl (cZ, 2, .inl sp))] := hD
      refine lv_aload_n hx hb d_Model_send_36 rfl (lv_at hl 1 rfl) ?_
      refine va_get (D := D) (ci := 7) (v := .ref a_sd) (C := R_Model) (T := F_Model) (N := 28) hx hb hts hin_Model hown hK hP 0 rfl rfl 15 (by decide) (hts _ (xm ww_548)) (fun _ h9 => h9) rfl d_Model_send_37 ?_
      refine lv_iload_n hx hb d_Model_send_40 rfl (lv_at hl 2 rfl) ?_
      refine lv_iload_n hx hb d_Model_send_41 rfl (lv_at hl 0 rfl) ?_
      have J4 : ∀ (y5 : Int32) (H : Heap) (locs : List Loc), y5 = (if y2 = 0 then (0) else (if (sp e_) = 0 then (0) else (1))) → xB y5 → va_P D vwCl [(h0, .inr (7, [.int tg, .ref a_st, .ref a_ck, .ref a_en, .ref a_au, .ref a_he, .ref a_qu, .ref a_lo, .ref a_ow, .ref a_fl, .ref a_ti, .ref a_gd, .ref a_ak, .ref a_sp, .ref a_se, .ref a_sd, .ref a_rw, .ref a_sz, .ref a_op, .ref a_th, .ref a_me, .ref a_pk, .int (nI kc), .int cm, .int su, .ref a_re, .int (nI kq), .ref a_dr])), (a_st, .inl (cI, 2, .inl st)), (a_ak, .inl (cI, 2, .inl ak)), (a_ow, .inl (cI, 2, .inl ow)), (a_lo, .inl (cI, 2, .inl lo)), (a_op, .inl (cZ, 4, .inl op)), (a_rw, .inl (cI, 256, .inl rw)), (a_sz, .inl (cI, 4, .inl (szf Ls))), (a_se, .inl (cI, 2, .inl (upd se e_ (-3)))), (a_sd, .inl (cZ, 2, .inl sd)), (a_sp, .inl (cZ, 2, .inl sp))] H → va_D A [(h0, .inr (7, [.int tg, .ref a_st, .ref a_ck, .ref a_en, .ref a_au, .ref a_he, .ref a_qu, .ref a_lo, .ref a_ow, .ref a_fl, .ref a_ti, .ref a_gd, .ref a_ak, .ref a_sp, .ref a_se, .ref a_sd, .ref a_rw, .ref a_sz, .ref a_op, .ref a_th, .ref a_me, .ref a_pk, .int (nI kc), .int cm, .int su, .ref a_re, .int (nI kq), .ref a_dr])), (a_st, .inl (cI, 2, .inl st)), (a_ak, .inl (cI, 2, .inl ak)), (a_ow, .inl (cI, 2, .inl ow)), (a_lo, .inl (cI, 2, .inl lo)), (a_op, .inl (cZ, 4, .inl op)), (a_rw, .inl (cI, 256, .inl rw)), (a_sz, .inl (cI, 4, .inl (szf Ls))), (a_se, .inl (cI, 2, .inl (upd se e_ (-3)))), (a_sd, .inl (cZ, 2, .inl sd)), (a_sp, .inl (cZ, 2, .inl sp))] → va_S A s.heap H locs → W p l e rm_Model_send s m args below meth c H locs 0 0 Q (F0 m 59 ls [.int y5, .int (nI e_), .ref a_sd]) := by
        intro y5 H locs hy5 hby5 hP hD hS
        replace hq := hq.trans (bnd_eq hy5)
        try dsimp only at hq
        refine xzast (k := e_) hx hb hK hP hD hS 9 1 rfl rfl rfl he_ (by decide) hby5 d_Model_send_59 (fun H locs hP hD hS => ?_)
        replace hP : va_P D vwCl [(h0, .inr (7, [.int tg, .ref a_st, .ref a_ck, .ref a_en, .ref a_au, .ref a_he, .ref a_qu, .ref a_lo, .ref a_ow, .ref a_fl, .ref a_ti, .ref a_gd, .ref a_ak, .ref a_sp, .ref a_se, .ref a_sd, .ref a_rw, .ref a_sz, .ref a_op, .ref a_th, .ref a_me, .ref a_pk, .int (nI kc), .int cm, .int su, .ref a_re, .int (nI kq), .ref a_dr])), (a_st, .inl (cI, 2, .inl st)), (a_ak, .inl (cI, 2, .inl ak)), (a_ow, .inl (cI, 2, .inl ow)), (a_lo, .inl (cI, 2, .inl lo)), (a_op, .inl (cZ, 4, .inl op)), (a_rw, .inl (cI, 256, .inl rw)), (a_sz, .inl (cI, 4, .inl (szf Ls))), (a_se, .inl (cI, 2, .inl (upd se e_ (-3)))), (a_sd, .inl (cZ, 2, .inl (upd sd e_ y5))), (a_sp, .inl (cZ, 2, .inl sp))] H := hP
        replace hD : va_D A [(h0, .inr (7, [.int tg, .ref a_st, .ref a_ck, .ref a_en, .ref a_au, .ref a_he, .ref a_qu, .ref a_lo, .ref a_ow, .ref a_fl, .ref a_ti, .ref a_gd, .ref a_ak, .ref a_sp, .ref a_se, .ref a_sd, .ref a_rw, .ref a_sz, .ref a_op, .ref a_th, .ref a_me, .ref a_pk, .int (nI kc), .int cm, .int su, .ref a_re, .int (nI kq), .ref a_dr])), (a_st, .inl (cI, 2, .inl st)), (a_ak, .inl (cI, 2, .inl ak)), (a_ow, .inl (cI, 2, .inl ow)), (a_lo, .inl (cI, 2, .inl lo)), (a_op, .inl (cZ, 4, .inl op)), (a_rw, .inl (cI, 256, .inl rw)), (a_sz, .inl (cI, 4, .inl (szf Ls))), (a_se, .inl (cI, 2, .inl (upd se e_ (-3)))), (a_sd, .inl (cZ, 2, .inl (upd sd e_ y5))), (a_sp, .inl (cZ, 2, .inl sp))] := hD
        refine lv_aload_n hx hb d_Model_send_60 rfl (lv_at hl 1 rfl) ?_
        refine va_get (D := D) (ci := 7) (v := .ref a_sp) (C := R_Model) (T := F_Model) (N := 28) hx hb hts hin_Model hown hK hP 0 rfl rfl 13 (by decide) (hts _ (xm ww_546)) (fun _ h9 => h9) rfl d_Model_send_61 ?_
        refine lv_iload_n hx hb d_Model_send_64 rfl (lv_at hl 2 rfl) ?_
        refine lv_aload_n hx hb d_Model_send_65 rfl (lv_at hl 1 rfl) ?_
        refine va_get (D := D) (ci := 7) (v := .ref a_sp) (C := R_Model) (T := F_Model) (N := 28) hx hb hts hin_Model hown hK hP 0 rfl rfl 13 (by decide) (hts _ (xm ww_546)) (fun _ h9 => h9) rfl d_Model_send_66 ?_
        refine lv_iload_n hx hb d_Model_send_69 rfl (lv_at hl 2 rfl) ?_
        refine xzald (k := e_) hx hb hK hP 10 1 rfl rfl rfl he_ (by decide) d_Model_send_70 ?_
        have J6 : ∀ (y7 : Int32) (H : Heap) (locs : List Loc), y7 = (if (sp e_) = 0 then (0) else (if y2 = 0 then (1) else (0))) → xB y7 → va_P D vwCl [(h0, .inr (7, [.int tg, .ref a_st, .ref a_ck, .ref a_en, .ref a_au, .ref a_he, .ref a_qu, .ref a_lo, .ref a_ow, .ref a_fl, .ref a_ti, .ref a_gd, .ref a_ak, .ref a_sp, .ref a_se, .ref a_sd, .ref a_rw, .ref a_sz, .ref a_op, .ref a_th, .ref a_me, .ref a_pk, .int (nI kc), .int cm, .int su, .ref a_re, .int (nI kq), .ref a_dr])), (a_st, .inl (cI, 2, .inl st)), (a_ak, .inl (cI, 2, .inl ak)), (a_ow, .inl (cI, 2, .inl ow)), (a_lo, .inl (cI, 2, .inl lo)), (a_op, .inl (cZ, 4, .inl op)), (a_rw, .inl (cI, 256, .inl rw)), (a_sz, .inl (cI, 4, .inl (szf Ls))), (a_se, .inl (cI, 2, .inl (upd se e_ (-3)))), (a_sd, .inl (cZ, 2, .inl (upd sd e_ y5))), (a_sp, .inl (cZ, 2, .inl sp))] H → va_D A [(h0, .inr (7, [.int tg, .ref a_st, .ref a_ck, .ref a_en, .ref a_au, .ref a_he, .ref a_qu, .ref a_lo, .ref a_ow, .ref a_fl, .ref a_ti, .ref a_gd, .ref a_ak, .ref a_sp, .ref a_se, .ref a_sd, .ref a_rw, .ref a_sz, .ref a_op, .ref a_th, .ref a_me, .ref a_pk, .int (nI kc), .int cm, .int su, .ref a_re, .int (nI kq), .ref a_dr])), (a_st, .inl (cI, 2, .inl st)), (a_ak, .inl (cI, 2, .inl ak)), (a_ow, .inl (cI, 2, .inl ow)), (a_lo, .inl (cI, 2, .inl lo)), (a_op, .inl (cZ, 4, .inl op)), (a_rw, .inl (cI, 256, .inl rw)), (a_sz, .inl (cI, 4, .inl (szf Ls))), (a_se, .inl (cI, 2, .inl (upd se e_ (-3)))), (a_sd, .inl (cZ, 2, .inl (upd sd e_ y5))), (a_sp, .inl (cZ, 2, .inl sp))] → va_S A s.heap H locs → W p l e rm_Model_send s m args below meth c H locs 0 0 Q (F0 m 83 ls [.int y7, .int (nI e_), .ref a_sp]) := by
          intro y7 H locs hy7 hby7 hP hD hS
          replace hq := hq.trans (bnd_eq hy7)
          try dsimp only at hq
          refine xzast (k := e_) hx hb hK hP hD hS 10 1 rfl rfl rfl he_ (by decide) hby7 d_Model_send_83 (fun H locs hP hD hS => ?_)
          replace hP : va_P D vwCl [(h0, .inr (7, [.int tg, .ref a_st, .ref a_ck, .ref a_en, .ref a_au, .ref a_he, .ref a_qu, .ref a_lo, .ref a_ow, .ref a_fl, .ref a_ti, .ref a_gd, .ref a_ak, .ref a_sp, .ref a_se, .ref a_sd, .ref a_rw, .ref a_sz, .ref a_op, .ref a_th, .ref a_me, .ref a_pk, .int (nI kc), .int cm, .int su, .ref a_re, .int (nI kq), .ref a_dr])), (a_st, .inl (cI, 2, .inl st)), (a_ak, .inl (cI, 2, .inl ak)), (a_ow, .inl (cI, 2, .inl ow)), (a_lo, .inl (cI, 2, .inl lo)), (a_op, .inl (cZ, 4, .inl op)), (a_rw, .inl (cI, 256, .inl rw)), (a_sz, .inl (cI, 4, .inl (szf Ls))), (a_se, .inl (cI, 2, .inl (upd se e_ (-3)))), (a_sd, .inl (cZ, 2, .inl (upd sd e_ y5))), (a_sp, .inl (cZ, 2, .inl (upd sp e_ y7)))] H := hP
          replace hD : va_D A [(h0, .inr (7, [.int tg, .ref a_st, .ref a_ck, .ref a_en, .ref a_au, .ref a_he, .ref a_qu, .ref a_lo, .ref a_ow, .ref a_fl, .ref a_ti, .ref a_gd, .ref a_ak, .ref a_sp, .ref a_se, .ref a_sd, .ref a_rw, .ref a_sz, .ref a_op, .ref a_th, .ref a_me, .ref a_pk, .int (nI kc), .int cm, .int su, .ref a_re, .int (nI kq), .ref a_dr])), (a_st, .inl (cI, 2, .inl st)), (a_ak, .inl (cI, 2, .inl ak)), (a_ow, .inl (cI, 2, .inl ow)), (a_lo, .inl (cI, 2, .inl lo)), (a_op, .inl (cZ, 4, .inl op)), (a_rw, .inl (cI, 256, .inl rw)), (a_sz, .inl (cI, 4, .inl (szf Ls))), (a_se, .inl (cI, 2, .inl (upd se e_ (-3)))), (a_sd, .inl (cZ, 2, .inl (upd sd e_ y5))), (a_sp, .inl (cZ, 2, .inl (upd sp e_ y7)))] := hD
          exact hret (ak, ow, lo, op, Ls, upd se e_ (-3), upd sd e_ y5, upd sp e_ y7, rw) ⟨hq.symm, hM⟩ _ _ _ _ hP hD hS d_Model_send_84
        have hv : ((if (sp e_) = 0 then (0) else (if y2 = 0 then (1) else (0))) : Int32) = (if (sp e_) = 0 then (0) else (if y2 = 0 then (1) else (0))) := rfl
        refine lv_if_eq (tgt := 82) hx hb d_Model_send_71 rfl (fun h8 => ?_) (fun h8 => ?_)
        · replace hv := hv.trans (if_pos h8)
          refine lv_iconst (v := 0) hx hb d_Model_send_82 rfl ?_
          exact J6 _ _ _ hv.symm (Or.inl rfl) hP hD hS
        replace hv := hv.trans (if_neg h8)
        refine lv_iload_n hx hb d_Model_send_74 rfl (lv_at hl 0 rfl) ?_
        refine lv_if_ne (tgt := 82) hx hb d_Model_send_75 rfl (fun h9 => ?_) (fun h9 => ?_)
        · replace hv := hv.trans (if_neg h9)
          refine lv_iconst (v := 0) hx hb d_Model_send_82 rfl ?_
          exact J6 _ _ _ hv.symm (Or.inl rfl) hP hD hS
        replace hv := hv.trans (if_pos h9)
        refine lv_iconst (v := 1) hx hb d_Model_send_78 rfl ?_
        refine lv_goto (tgt := 83) hx hb d_Model_send_79 rfl ?_
        exact J6 _ _ _ hv.symm (Or.inr rfl) hP hD hS
      have hv : ((if y2 = 0 then (0) else (if (sp e_) = 0 then (0) else (1))) : Int32) = (if y2 = 0 then (0) else (if (sp e_) = 0 then (0) else (1))) := rfl
      refine lv_if_eq (tgt := 58) hx hb d_Model_send_42 rfl (fun h10 => ?_) (fun h10 => ?_)
      · replace hv := hv.trans (if_pos h10)
        refine lv_iconst (v := 0) hx hb d_Model_send_58 rfl ?_
        exact J4 _ _ _ hv.symm (Or.inl rfl) hP hD hS
      replace hv := hv.trans (if_neg h10)
      refine lv_aload_n hx hb d_Model_send_45 rfl (lv_at hl 1 rfl) ?_
      refine va_get (D := D) (ci := 7) (v := .ref a_sp) (C := R_Model) (T := F_Model) (N := 28) hx hb hts hin_Model hown hK hP 0 rfl rfl 13 (by decide) (hts _ (xm ww_546)) (fun _ h9 => h9) rfl d_Model_send_46 ?_
      refine lv_iload_n hx hb d_Model_send_49 rfl (lv_at hl 2 rfl) ?_
      refine xzald (k := e_) hx hb hK hP 10 1 rfl rfl rfl he_ (by decide) d_Model_send_50 ?_
      refine lv_if_eq (tgt := 58) hx hb d_Model_send_51 rfl (fun h11 => ?_) (fun h11 => ?_)
      · replace hv := hv.trans (if_pos h11)
        refine lv_iconst (v := 0) hx hb d_Model_send_58 rfl ?_
        exact J4 _ _ _ hv.symm (Or.inl rfl) hP hD hS
      replace hv := hv.trans (if_neg h11)
      refine lv_iconst (v := 1) hx hb d_Model_send_54 rfl ?_
      refine lv_goto (tgt := 59) hx hb d_Model_send_55 rfl ?_
      exact J4 _ _ _ hv.symm (Or.inr rfl) hP hD hS
    replace hq := hq.trans (if_neg h3)
    refine lv_aload_n hx hb d_Model_send_25 rfl (lv_at hl 1 rfl) ?_
    refine lv_iload_n hx hb d_Model_send_26 rfl (lv_at hl 2 rfl) ?_
    refine xcall_i (wc := [(h0, .inr (7, [.int tg, .ref a_st, .ref a_ck, .ref a_en, .ref a_au, .ref a_he, .ref a_qu, .ref a_lo, .ref a_ow, .ref a_fl, .ref a_ti, .ref a_gd, .ref a_ak, .ref a_sp, .ref a_se, .ref a_sd, .ref a_rw, .ref a_sz, .ref a_op, .ref a_th, .ref a_me, .ref a_pk, .int (nI kc), .int cm, .int su, .ref a_re, .int (nI kq), .ref a_dr])), (a_st, .inl (cI, 2, .inl st)), (a_ak, .inl (cI, 2, .inl ak)), (a_ow, .inl (cI, 2, .inl ow)), (a_lo, .inl (cI, 2, .inl lo)), (a_op, .inl (cZ, 4, .inl op)), (a_rw, .inl (cI, 256, .inl rw)), (a_sz, .inl (cI, 4, .inl (szf Ls)))]) (wr := [(a_se, .inl (cI, 2, .inl se)), (a_sd, .inl (cZ, 2, .inl sd)), (a_sp, .inl (cZ, 2, .inl sp))]) (ws1 := fun (u : (Nat → Int32) × (Nat → Int32) × (Nat → Int32) × (Nat → Int32) × (Nat → List Int32) × (Nat → Int32)) => [(h0, .inr (7, [.int tg, .ref a_st, .ref a_ck, .ref a_en, .ref a_au, .ref a_he, .ref a_qu, .ref a_lo, .ref a_ow, .ref a_fl, .ref a_ti, .ref a_gd, .ref a_ak, .ref a_sp, .ref a_se, .ref a_sd, .ref a_rw, .ref a_sz, .ref a_op, .ref a_th, .ref a_me, .ref a_pk, .int (nI kc), .int cm, .int su, .ref a_re, .int (nI kq), .ref a_dr])), (a_st, .inl (cI, 2, .inl st)), (a_ak, .inl (cI, 2, .inl u.1)), (a_ow, .inl (cI, 2, .inl u.2.1)), (a_lo, .inl (cI, 2, .inl u.2.2.1)), (a_op, .inl (cZ, 4, .inl u.2.2.2.1)), (a_rw, .inl (cI, 256, .inl u.2.2.2.2.2)), (a_sz, .inl (cI, 4, .inl (szf u.2.2.2.2.1))), (a_se, .inl (cI, 2, .inl se)), (a_sd, .inl (cZ, 2, .inl sd)), (a_sp, .inl (cZ, 2, .inl sp))]) (va_runV (As := [.int (nI e_)]) (rest := [.int (nI e_), .ref a_se]) ⟨hx, hb, hml, hown, hts⟩ (c_Model_choose st ak ow lo op Ls e_ h0 a_st a_ck a_en a_au a_he a_qu a_lo a_ow a_fl a_ti a_gd a_ak a_sp a_se a_sd a_rw a_sz a_op a_th a_me a_pk a_re a_dr tg kc cm su kq rw hM he_ H.size) (xcwV 1 hts ww_654 ww_651 ww_653 ws_Model_choose ww_8 (by decide +kernel) rfl rfl ⟨Nat.le_of_ble_eq_true rfl, Nat.le_of_ble_eq_true rfl⟩) (xPreV (ci := 7) (q0 := 0) (q := (R_Model, F_Model, 28)) (hP.sub [0, 1, 2, 3, 4, 5, 6, 7] rfl) (hD.sub [0, 1, 2, 3, 4, 5, 6, 7] (by decide) rfl) hK hN rfl rfl rfl) rfl rfl hl.1 rfl (lv_room (Nat.le_of_ble_eq_true rfl)) d_Model_send_27 ⟨Nat.le_of_ble_eq_true rfl, Nat.le_of_ble_eq_true rfl⟩) hP hD hS hA [0, 1, 2, 3, 4, 5, 6, 7] [8, 9, 10] [3, 4, 5, 6, 7, 8, 9, 10, 0, 1, 2] rfl rfl (by decide) (by decide) (by decide) (fun _ => rfl) (fun r12 u12 H locs hw hP hD hS => ?_)
    obtain ⟨ak12, ow12, lo12, op12, Ls12, rw12⟩ := u12
    obtain ⟨hw, hM_12⟩ := hw
    replace hP : va_P D vwCl [(h0, .inr (7, [.int tg, .ref a_st, .ref a_ck, .ref a_en, .ref a_au, .ref a_he, .ref a_qu, .ref a_lo, .ref a_ow, .ref a_fl, .ref a_ti, .ref a_gd, .ref a_ak, .ref a_sp, .ref a_se, .ref a_sd, .ref a_rw, .ref a_sz, .ref a_op, .ref a_th, .ref a_me, .ref a_pk, .int (nI kc), .int cm, .int su, .ref a_re, .int (nI kq), .ref a_dr])), (a_st, .inl (cI, 2, .inl st)), (a_ak, .inl (cI, 2, .inl ak12)), (a_ow, .inl (cI, 2, .inl ow12)), (a_lo, .inl (cI, 2, .inl lo12)), (a_op, .inl (cZ, 4, .inl op12)), (a_rw, .inl (cI, 256, .inl rw12)), (a_sz, .inl (cI, 4, .inl (szf Ls12))), (a_se, .inl (cI, 2, .inl se)), (a_sd, .inl (cZ, 2, .inl sd)), (a_sp, .inl (cZ, 2, .inl sp))] H := hP
    replace hD : va_D A [(h0, .inr (7, [.int tg, .ref a_st, .ref a_ck, .ref a_en, .ref a_au, .ref a_he, .ref a_qu, .ref a_lo, .ref a_ow, .ref a_fl, .ref a_ti, .ref a_gd, .ref a_ak, .ref a_sp, .ref a_se, .ref a_sd, .ref a_rw, .ref a_sz, .ref a_op, .ref a_th, .ref a_me, .ref a_pk, .int (nI kc), .int cm, .int su, .ref a_re, .int (nI kq), .ref a_dr])), (a_st, .inl (cI, 2, .inl st)), (a_ak, .inl (cI, 2, .inl ak12)), (a_ow, .inl (cI, 2, .inl ow12)), (a_lo, .inl (cI, 2, .inl lo12)), (a_op, .inl (cZ, 4, .inl op12)), (a_rw, .inl (cI, 256, .inl rw12)), (a_sz, .inl (cI, 4, .inl (szf Ls12))), (a_se, .inl (cI, 2, .inl se)), (a_sd, .inl (cZ, 2, .inl sd)), (a_sp, .inl (cZ, 2, .inl sp))] := hD
    have hw_12 := hw
    replace hq := hq.trans (bnd6_eq hw)
    try dsimp only at hq
    refine lv_goto (tgt := 35) hx hb d_Model_send_30 rfl ?_
    refine xiast (k := e_) hx hb hK hP hD hS 8 0 rfl rfl rfl he_ (by decide) d_Model_send_35 (fun H locs hP hD hS => ?_)
    replace hP : va_P D vwCl [(h0, .inr (7, [.int tg, .ref a_st, .ref a_ck, .ref a_en, .ref a_au, .ref a_he, .ref a_qu, .ref a_lo, .ref a_ow, .ref a_fl, .ref a_ti, .ref a_gd, .ref a_ak, .ref a_sp, .ref a_se, .ref a_sd, .ref a_rw, .ref a_sz, .ref a_op, .ref a_th, .ref a_me, .ref a_pk, .int (nI kc), .int cm, .int su, .ref a_re, .int (nI kq), .ref a_dr])), (a_st, .inl (cI, 2, .inl st)), (a_ak, .inl (cI, 2, .inl ak12)), (a_ow, .inl (cI, 2, .inl ow12)), (a_lo, .inl (cI, 2, .inl lo12)), (a_op, .inl (cZ, 4, .inl op12)), (a_rw, .inl (cI, 256, .inl rw12)), (a_sz, .inl (cI, 4, .inl (szf Ls12))), (a_se, .inl (cI, 2, .inl (upd se e_ r12))), (a_sd, .inl (cZ, 2, .inl sd)), (a_sp, .inl (cZ, 2, .inl sp))] H := hP
    replace hD : va_D A [(h0, .inr (7, [.int tg, .ref a_st, .ref a_ck, .ref a_en, .ref a_au, .ref a_he, .ref a_qu, .ref a_lo, .ref a_ow, .ref a_fl, .ref a_ti, .ref a_gd, .ref a_ak, .ref a_sp, .ref a_se, .ref a_sd, .ref a_rw, .ref a_sz, .ref a_op, .ref a_th, .ref a_me, .ref a_pk, .int (nI kc), .int cm, .int su, .ref a_re, .int (nI kq), .ref a_dr])), (a_st, .inl (cI, 2, .inl st)), (a_ak, .inl (cI, 2, .inl ak12)), (a_ow, .inl (cI, 2, .inl ow12)), (a_lo, .inl (cI, 2, .inl lo12)), (a_op, .inl (cZ, 4, .inl op12)), (a_rw, .inl (cI, 256, .inl rw12)), (a_sz, .inl (cI, 4, .inl (szf Ls12))), (a_se, .inl (cI, 2, .inl (upd se e_ r12))), (a_sd, .inl (cZ, 2, .inl sd)), (a_sp, .inl (cZ, 2, .inl sp))] := hD
    refine lv_aload_n hx hb d_Model_send_36 rfl (lv_at hl 1 rfl) ?_
    refine va_get (D := D) (ci := 7) (v := .ref a_sd) (C := R_Model) (T := F_Model) (N := 28) hx hb hts hin_Model hown hK hP 0 rfl rfl 15 (by decide) (hts _ (xm ww_548)) (fun _ h9 => h9) rfl d_Model_send_37 ?_
    refine lv_iload_n hx hb d_Model_send_40 rfl (lv_at hl 2 rfl) ?_
    refine lv_iload_n hx hb d_Model_send_41 rfl (lv_at hl 0 rfl) ?_
    have J13 : ∀ (y14 : Int32) (H : Heap) (locs : List Loc), y14 = (if y2 = 0 then (0) else (if (sp e_) = 0 then (0) else (1))) → xB y14 → va_P D vwCl [(h0, .inr (7, [.int tg, .ref a_st, .ref a_ck, .ref a_en, .ref a_au, .ref a_he, .ref a_qu, .ref a_lo, .ref a_ow, .ref a_fl, .ref a_ti, .ref a_gd, .ref a_ak, .ref a_sp, .ref a_se, .ref a_sd, .ref a_rw, .ref a_sz, .ref a_op, .ref a_th, .ref a_me, .ref a_pk, .int (nI kc), .int cm, .int su, .ref a_re, .int (nI kq), .ref a_dr])), (a_st, .inl (cI, 2, .inl st)), (a_ak, .inl (cI, 2, .inl ak12)), (a_ow, .inl (cI, 2, .inl ow12)), (a_lo, .inl (cI, 2, .inl lo12)), (a_op, .inl (cZ, 4, .inl op12)), (a_rw, .inl (cI, 256, .inl rw12)), (a_sz, .inl (cI, 4, .inl (szf Ls12))), (a_se, .inl (cI, 2, .inl (upd se e_ r12))), (a_sd, .inl (cZ, 2, .inl sd)), (a_sp, .inl (cZ, 2, .inl sp))] H → va_D A [(h0, .inr (7, [.int tg, .ref a_st, .ref a_ck, .ref a_en, .ref a_au, .ref a_he, .ref a_qu, .ref a_lo, .ref a_ow, .ref a_fl, .ref a_ti, .ref a_gd, .ref a_ak, .ref a_sp, .ref a_se, .ref a_sd, .ref a_rw, .ref a_sz, .ref a_op, .ref a_th, .ref a_me, .ref a_pk, .int (nI kc), .int cm, .int su, .ref a_re, .int (nI kq), .ref a_dr])), (a_st, .inl (cI, 2, .inl st)), (a_ak, .inl (cI, 2, .inl ak12)), (a_ow, .inl (cI, 2, .inl ow12)), (a_lo, .inl (cI, 2, .inl lo12)), (a_op, .inl (cZ, 4, .inl op12)), (a_rw, .inl (cI, 256, .inl rw12)), (a_sz, .inl (cI, 4, .inl (szf Ls12))), (a_se, .inl (cI, 2, .inl (upd se e_ r12))), (a_sd, .inl (cZ, 2, .inl sd)), (a_sp, .inl (cZ, 2, .inl sp))] → va_S A s.heap H locs → W p l e rm_Model_send s m args below meth c H locs 0 0 Q (F0 m 59 ls [.int y14, .int (nI e_), .ref a_sd]) := by
      intro y14 H locs hy14 hby14 hP hD hS
      replace hq := hq.trans (bnd_eq hy14)
      try dsimp only at hq
      refine xzast (k := e_) hx hb hK hP hD hS 9 1 rfl rfl rfl he_ (by decide) hby14 d_Model_send_59 (fun H locs hP hD hS => ?_)
      replace hP : va_P D vwCl [(h0, .inr (7, [.int tg, .ref a_st, .ref a_ck, .ref a_en, .ref a_au, .ref a_he, .ref a_qu, .ref a_lo, .ref a_ow, .ref a_fl, .ref a_ti, .ref a_gd, .ref a_ak, .ref a_sp, .ref a_se, .ref a_sd, .ref a_rw, .ref a_sz, .ref a_op, .ref a_th, .ref a_me, .ref a_pk, .int (nI kc), .int cm, .int su, .ref a_re, .int (nI kq), .ref a_dr])), (a_st, .inl (cI, 2, .inl st)), (a_ak, .inl (cI, 2, .inl ak12)), (a_ow, .inl (cI, 2, .inl ow12)), (a_lo, .inl (cI, 2, .inl lo12)), (a_op, .inl (cZ, 4, .inl op12)), (a_rw, .inl (cI, 256, .inl rw12)), (a_sz, .inl (cI, 4, .inl (szf Ls12))), (a_se, .inl (cI, 2, .inl (upd se e_ r12))), (a_sd, .inl (cZ, 2, .inl (upd sd e_ y14))), (a_sp, .inl (cZ, 2, .inl sp))] H := hP
      replace hD : va_D A [(h0, .inr (7, [.int tg, .ref a_st, .ref a_ck, .ref a_en, .ref a_au, .ref a_he, .ref a_qu, .ref a_lo, .ref a_ow, .ref a_fl, .ref a_ti, .ref a_gd, .ref a_ak, .ref a_sp, .ref a_se, .ref a_sd, .ref a_rw, .ref a_sz, .ref a_op, .ref a_th, .ref a_me, .ref a_pk, .int (nI kc), .int cm, .int su, .ref a_re, .int (nI kq), .ref a_dr])), (a_st, .inl (cI, 2, .inl st)), (a_ak, .inl (cI, 2, .inl ak12)), (a_ow, .inl (cI, 2, .inl ow12)), (a_lo, .inl (cI, 2, .inl lo12)), (a_op, .inl (cZ, 4, .inl op12)), (a_rw, .inl (cI, 256, .inl rw12)), (a_sz, .inl (cI, 4, .inl (szf Ls12))), (a_se, .inl (cI, 2, .inl (upd se e_ r12))), (a_sd, .inl (cZ, 2, .inl (upd sd e_ y14))), (a_sp, .inl (cZ, 2, .inl sp))] := hD
      refine lv_aload_n hx hb d_Model_send_60 rfl (lv_at hl 1 rfl) ?_
      refine va_get (D := D) (ci := 7) (v := .ref a_sp) (C := R_Model) (T := F_Model) (N := 28) hx hb hts hin_Model hown hK hP 0 rfl rfl 13 (by decide) (hts _ (xm ww_546)) (fun _ h9 => h9) rfl d_Model_send_61 ?_
      refine lv_iload_n hx hb d_Model_send_64 rfl (lv_at hl 2 rfl) ?_
      refine lv_aload_n hx hb d_Model_send_65 rfl (lv_at hl 1 rfl) ?_
      refine va_get (D := D) (ci := 7) (v := .ref a_sp) (C := R_Model) (T := F_Model) (N := 28) hx hb hts hin_Model hown hK hP 0 rfl rfl 13 (by decide) (hts _ (xm ww_546)) (fun _ h9 => h9) rfl d_Model_send_66 ?_
      refine lv_iload_n hx hb d_Model_send_69 rfl (lv_at hl 2 rfl) ?_
      refine xzald (k := e_) hx hb hK hP 10 1 rfl rfl rfl he_ (by decide) d_Model_send_70 ?_
      have J15 : ∀ (y16 : Int32) (H : Heap) (locs : List Loc), y16 = (if (sp e_) = 0 then (0) else (if y2 = 0 then (1) else (0))) → xB y16 → va_P D vwCl [(h0, .inr (7, [.int tg, .ref a_st, .ref a_ck, .ref a_en, .ref a_au, .ref a_he, .ref a_qu, .ref a_lo, .ref a_ow, .ref a_fl, .ref a_ti, .ref a_gd, .ref a_ak, .ref a_sp, .ref a_se, .ref a_sd, .ref a_rw, .ref a_sz, .ref a_op, .ref a_th, .ref a_me, .ref a_pk, .int (nI kc), .int cm, .int su, .ref a_re, .int (nI kq), .ref a_dr])), (a_st, .inl (cI, 2, .inl st)), (a_ak, .inl (cI, 2, .inl ak12)), (a_ow, .inl (cI, 2, .inl ow12)), (a_lo, .inl (cI, 2, .inl lo12)), (a_op, .inl (cZ, 4, .inl op12)), (a_rw, .inl (cI, 256, .inl rw12)), (a_sz, .inl (cI, 4, .inl (szf Ls12))), (a_se, .inl (cI, 2, .inl (upd se e_ r12))), (a_sd, .inl (cZ, 2, .inl (upd sd e_ y14))), (a_sp, .inl (cZ, 2, .inl sp))] H → va_D A [(h0, .inr (7, [.int tg, .ref a_st, .ref a_ck, .ref a_en, .ref a_au, .ref a_he, .ref a_qu, .ref a_lo, .ref a_ow, .ref a_fl, .ref a_ti, .ref a_gd, .ref a_ak, .ref a_sp, .ref a_se, .ref a_sd, .ref a_rw, .ref a_sz, .ref a_op, .ref a_th, .ref a_me, .ref a_pk, .int (nI kc), .int cm, .int su, .ref a_re, .int (nI kq), .ref a_dr])), (a_st, .inl (cI, 2, .inl st)), (a_ak, .inl (cI, 2, .inl ak12)), (a_ow, .inl (cI, 2, .inl ow12)), (a_lo, .inl (cI, 2, .inl lo12)), (a_op, .inl (cZ, 4, .inl op12)), (a_rw, .inl (cI, 256, .inl rw12)), (a_sz, .inl (cI, 4, .inl (szf Ls12))), (a_se, .inl (cI, 2, .inl (upd se e_ r12))), (a_sd, .inl (cZ, 2, .inl (upd sd e_ y14))), (a_sp, .inl (cZ, 2, .inl sp))] → va_S A s.heap H locs → W p l e rm_Model_send s m args below meth c H locs 0 0 Q (F0 m 83 ls [.int y16, .int (nI e_), .ref a_sp]) := by
        intro y16 H locs hy16 hby16 hP hD hS
        replace hq := hq.trans (bnd_eq hy16)
        try dsimp only at hq
        refine xzast (k := e_) hx hb hK hP hD hS 10 1 rfl rfl rfl he_ (by decide) hby16 d_Model_send_83 (fun H locs hP hD hS => ?_)
        replace hP : va_P D vwCl [(h0, .inr (7, [.int tg, .ref a_st, .ref a_ck, .ref a_en, .ref a_au, .ref a_he, .ref a_qu, .ref a_lo, .ref a_ow, .ref a_fl, .ref a_ti, .ref a_gd, .ref a_ak, .ref a_sp, .ref a_se, .ref a_sd, .ref a_rw, .ref a_sz, .ref a_op, .ref a_th, .ref a_me, .ref a_pk, .int (nI kc), .int cm, .int su, .ref a_re, .int (nI kq), .ref a_dr])), (a_st, .inl (cI, 2, .inl st)), (a_ak, .inl (cI, 2, .inl ak12)), (a_ow, .inl (cI, 2, .inl ow12)), (a_lo, .inl (cI, 2, .inl lo12)), (a_op, .inl (cZ, 4, .inl op12)), (a_rw, .inl (cI, 256, .inl rw12)), (a_sz, .inl (cI, 4, .inl (szf Ls12))), (a_se, .inl (cI, 2, .inl (upd se e_ r12))), (a_sd, .inl (cZ, 2, .inl (upd sd e_ y14))), (a_sp, .inl (cZ, 2, .inl (upd sp e_ y16)))] H := hP
        replace hD : va_D A [(h0, .inr (7, [.int tg, .ref a_st, .ref a_ck, .ref a_en, .ref a_au, .ref a_he, .ref a_qu, .ref a_lo, .ref a_ow, .ref a_fl, .ref a_ti, .ref a_gd, .ref a_ak, .ref a_sp, .ref a_se, .ref a_sd, .ref a_rw, .ref a_sz, .ref a_op, .ref a_th, .ref a_me, .ref a_pk, .int (nI kc), .int cm, .int su, .ref a_re, .int (nI kq), .ref a_dr])), (a_st, .inl (cI, 2, .inl st)), (a_ak, .inl (cI, 2, .inl ak12)), (a_ow, .inl (cI, 2, .inl ow12)), (a_lo, .inl (cI, 2, .inl lo12)), (a_op, .inl (cZ, 4, .inl op12)), (a_rw, .inl (cI, 256, .inl rw12)), (a_sz, .inl (cI, 4, .inl (szf Ls12))), (a_se, .inl (cI, 2, .inl (upd se e_ r12))), (a_sd, .inl (cZ, 2, .inl (upd sd e_ y14))), (a_sp, .inl (cZ, 2, .inl (upd sp e_ y16)))] := hD
        exact hret (ak12, ow12, lo12, op12, Ls12, upd se e_ r12, upd sd e_ y14, upd sp e_ y16, rw12) ⟨hq.symm, hM_12⟩ _ _ _ _ hP hD hS d_Model_send_84
      have hv : ((if (sp e_) = 0 then (0) else (if y2 = 0 then (1) else (0))) : Int32) = (if (sp e_) = 0 then (0) else (if y2 = 0 then (1) else (0))) := rfl
      refine lv_if_eq (tgt := 82) hx hb d_Model_send_71 rfl (fun h17 => ?_) (fun h17 => ?_)
      · replace hv := hv.trans (if_pos h17)
        refine lv_iconst (v := 0) hx hb d_Model_send_82 rfl ?_
        exact J15 _ _ _ hv.symm (Or.inl rfl) hP hD hS
      replace hv := hv.trans (if_neg h17)
      refine lv_iload_n hx hb d_Model_send_74 rfl (lv_at hl 0 rfl) ?_
      refine lv_if_ne (tgt := 82) hx hb d_Model_send_75 rfl (fun h18 => ?_) (fun h18 => ?_)
      · replace hv := hv.trans (if_neg h18)
        refine lv_iconst (v := 0) hx hb d_Model_send_82 rfl ?_
        exact J15 _ _ _ hv.symm (Or.inl rfl) hP hD hS
      replace hv := hv.trans (if_pos h18)
      refine lv_iconst (v := 1) hx hb d_Model_send_78 rfl ?_
      refine lv_goto (tgt := 83) hx hb d_Model_send_79 rfl ?_
      exact J15 _ _ _ hv.symm (Or.inr rfl) hP hD hS
    have hv : ((if y2 = 0 then (0) else (if (sp e_) = 0 then (0) else (1))) : Int32) = (if y2 = 0 then (0) else (if (sp e_) = 0 then (0) else (1))) := rfl
    refine lv_if_eq (tgt := 58) hx hb d_Model_send_42 rfl (fun h19 => ?_) (fun h19 => ?_)
    · replace hv := hv.trans (if_pos h19)
      refine lv_iconst (v := 0) hx hb d_Model_send_58 rfl ?_
      exact J13 _ _ _ hv.symm (Or.inl rfl) hP hD hS
    replace hv := hv.trans (if_neg h19)
    refine lv_aload_n hx hb d_Model_send_45 rfl (lv_at hl 1 rfl) ?_
    refine va_get (D := D) (ci := 7) (v := .ref a_sp) (C := R_Model) (T := F_Model) (N := 28) hx hb hts hin_Model hown hK hP 0 rfl rfl 13 (by decide) (hts _ (xm ww_546)) (fun _ h9 => h9) rfl d_Model_send_46 ?_
    refine lv_iload_n hx hb d_Model_send_49 rfl (lv_at hl 2 rfl) ?_
    refine xzald (k := e_) hx hb hK hP 10 1 rfl rfl rfl he_ (by decide) d_Model_send_50 ?_
    refine lv_if_eq (tgt := 58) hx hb d_Model_send_51 rfl (fun h20 => ?_) (fun h20 => ?_)
    · replace hv := hv.trans (if_pos h20)
      refine lv_iconst (v := 0) hx hb d_Model_send_58 rfl ?_
      exact J13 _ _ _ hv.symm (Or.inl rfl) hP hD hS
    replace hv := hv.trans (if_neg h20)
    refine lv_iconst (v := 1) hx hb d_Model_send_54 rfl ?_
    refine lv_goto (tgt := 59) hx hb d_Model_send_55 rfl ?_
    exact J13 _ _ _ hv.symm (Or.inr rfl) hP hD hS
  have hv : ((if (st e_) < 3 then (0) else (1)) : Int32) = (if (st e_) < 3 then (0) else (1)) := rfl
  refine lv_icmp_lt (tgt := 14) hx hb d_Model_send_7 rfl (fun h21 => ?_) (fun h21 => ?_)
  · replace hv := hv.trans (if_pos h21)
    refine lv_iconst (v := 0) hx hb d_Model_send_14 rfl ?_
    exact J1 _ _ _ hv.symm (Or.inl rfl) hP hD hS
  replace hv := hv.trans (if_neg h21)
  refine lv_iconst (v := 1) hx hb d_Model_send_10 rfl ?_
  refine lv_goto (tgt := 15) hx hb d_Model_send_11 rfl ?_
  exact J1 _ _ _ hv.symm (Or.inr rfl) hP hD hS
