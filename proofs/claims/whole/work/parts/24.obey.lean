theorem d_Model_writeData_0 : decode b_Model_writeData 0 = .ok (.aload_n 0, 1) := by decide +kernel
theorem d_Model_writeData_1 : decode b_Model_writeData 1 = .ok (.getfield 74, 3) := by decide +kernel
theorem d_Model_writeData_4 : decode b_Model_writeData 4 = .ok (.ifCond .eq 29, 3) := by decide +kernel
theorem d_Model_writeData_7 : decode b_Model_writeData 7 = .ok (.aload_n 0, 1) := by decide +kernel
theorem d_Model_writeData_8 : decode b_Model_writeData 8 = .ok (.getfield 74, 3) := by decide +kernel
theorem d_Model_writeData_11 : decode b_Model_writeData 11 = .ok (.iconst 4, 1) := by decide +kernel
theorem d_Model_writeData_12 : decode b_Model_writeData 12 = .ok (.if_icmp .lt 25, 3) := by decide +kernel
theorem d_Model_writeData_15 : decode b_Model_writeData 15 = .ok (.aload_n 0, 1) := by decide +kernel
theorem d_Model_writeData_16 : decode b_Model_writeData 16 = .ok (.getfield 74, 3) := by decide +kernel
theorem d_Model_writeData_19 : decode b_Model_writeData 19 = .ok (.bipush 6, 2) := by decide +kernel
theorem d_Model_writeData_21 : decode b_Model_writeData 21 = .ok (.if_icmp .gt 16, 3) := by decide +kernel
theorem d_Model_writeData_24 : decode b_Model_writeData 24 = .ok (.aload_n 0, 1) := by decide +kernel
theorem d_Model_writeData_25 : decode b_Model_writeData 25 = .ok (.bipush 16, 2) := by decide +kernel
theorem d_Model_writeData_27 : decode b_Model_writeData 27 = .ok (.invokevirtual 133, 3) := by decide +kernel
theorem d_Model_writeData_30 : decode b_Model_writeData 30 = .ok (.ifCond .ne 7, 3) := by decide +kernel
theorem d_Model_writeData_33 : decode b_Model_writeData 33 = .ok (.iconst 1, 1) := by decide +kernel
theorem d_Model_writeData_34 : decode b_Model_writeData 34 = .ok (.goto 4, 3) := by decide +kernel
theorem d_Model_writeData_37 : decode b_Model_writeData 37 = .ok (.iconst 0, 1) := by decide +kernel
theorem d_Model_writeData_38 : decode b_Model_writeData 38 = .ok (.istore_n 1, 1) := by decide +kernel
theorem d_Model_writeData_39 : decode b_Model_writeData 39 = .ok (.aload_n 0, 1) := by decide +kernel
theorem d_Model_writeData_40 : decode b_Model_writeData 40 = .ok (.getfield 71, 3) := by decide +kernel
theorem d_Model_writeData_43 : decode b_Model_writeData 43 = .ok (.bipush 7, 2) := by decide +kernel
theorem d_Model_writeData_45 : decode b_Model_writeData 45 = .ok (.iaload, 1) := by decide +kernel
theorem d_Model_writeData_46 : decode b_Model_writeData 46 = .ok (.aload_n 0, 1) := by decide +kernel
theorem d_Model_writeData_47 : decode b_Model_writeData 47 = .ok (.getfield 127, 3) := by decide +kernel
theorem d_Model_writeData_50 : decode b_Model_writeData 50 = .ok (.bipush 9, 2) := by decide +kernel
theorem d_Model_writeData_52 : decode b_Model_writeData 52 = .ok (.isub, 1) := by decide +kernel
theorem d_Model_writeData_53 : decode b_Model_writeData 53 = .ok (.if_icmp .ge 13, 3) := by decide +kernel
theorem d_Model_writeData_56 : decode b_Model_writeData 56 = .ok (.aload_n 0, 1) := by decide +kernel
theorem d_Model_writeData_57 : decode b_Model_writeData 57 = .ok (.getfield 71, 3) := by decide +kernel
theorem d_Model_writeData_60 : decode b_Model_writeData 60 = .ok (.bipush 7, 2) := by decide +kernel
theorem d_Model_writeData_62 : decode b_Model_writeData 62 = .ok (.iaload, 1) := by decide +kernel
theorem d_Model_writeData_63 : decode b_Model_writeData 63 = .ok (.goto 10, 3) := by decide +kernel
theorem d_Model_writeData_66 : decode b_Model_writeData 66 = .ok (.aload_n 0, 1) := by decide +kernel
theorem d_Model_writeData_67 : decode b_Model_writeData 67 = .ok (.getfield 127, 3) := by decide +kernel
theorem d_Model_writeData_70 : decode b_Model_writeData 70 = .ok (.bipush 9, 2) := by decide +kernel
theorem d_Model_writeData_72 : decode b_Model_writeData 72 = .ok (.isub, 1) := by decide +kernel
theorem d_Model_writeData_73 : decode b_Model_writeData 73 = .ok (.istore_n 2, 1) := by decide +kernel
theorem d_Model_writeData_74 : decode b_Model_writeData 74 = .ok (.iconst 0, 1) := by decide +kernel
theorem d_Model_writeData_75 : decode b_Model_writeData 75 = .ok (.istore_n 3, 1) := by decide +kernel
theorem d_Model_writeData_76 : decode b_Model_writeData 76 = .ok (.iload_n 3, 1) := by decide +kernel
theorem d_Model_writeData_77 : decode b_Model_writeData 77 = .ok (.iload_n 2, 1) := by decide +kernel
theorem d_Model_writeData_78 : decode b_Model_writeData 78 = .ok (.if_icmp .ge 32, 3) := by decide +kernel
theorem d_Model_writeData_81 : decode b_Model_writeData 81 = .ok (.iload_n 1, 1) := by decide +kernel
theorem d_Model_writeData_82 : decode b_Model_writeData 82 = .ok (.ifCond .eq 28, 3) := by decide +kernel
theorem d_Model_writeData_85 : decode b_Model_writeData 85 = .ok (.aload_n 0, 1) := by decide +kernel
theorem d_Model_writeData_86 : decode b_Model_writeData 86 = .ok (.getfield 68, 3) := by decide +kernel
theorem d_Model_writeData_89 : decode b_Model_writeData 89 = .ok (.aload_n 0, 1) := by decide +kernel
theorem d_Model_writeData_90 : decode b_Model_writeData 90 = .ok (.iload_n 3, 1) := by decide +kernel
theorem d_Model_writeData_91 : decode b_Model_writeData 91 = .ok (.invokevirtual 139, 3) := by decide +kernel
theorem d_Model_writeData_94 : decode b_Model_writeData 94 = .ok (.aload_n 0, 1) := by decide +kernel
theorem d_Model_writeData_95 : decode b_Model_writeData 95 = .ok (.getfield 71, 3) := by decide +kernel
theorem d_Model_writeData_98 : decode b_Model_writeData 98 = .ok (.bipush 9, 2) := by decide +kernel
theorem d_Model_writeData_100 : decode b_Model_writeData 100 = .ok (.iload_n 3, 1) := by decide +kernel
theorem d_Model_writeData_101 : decode b_Model_writeData 101 = .ok (.iadd, 1) := by decide +kernel
theorem d_Model_writeData_102 : decode b_Model_writeData 102 = .ok (.iaload, 1) := by decide +kernel
theorem d_Model_writeData_103 : decode b_Model_writeData 103 = .ok (.iastore, 1) := by decide +kernel
theorem d_Model_writeData_104 : decode b_Model_writeData 104 = .ok (.iinc 3 1, 3) := by decide +kernel
theorem d_Model_writeData_107 : decode b_Model_writeData 107 = .ok (.goto (-31), 3) := by decide +kernel
theorem d_Model_writeData_110 : decode b_Model_writeData 110 = .ok (.return_, 1) := by decide +kernel
theorem d_Model_changeBits_0 : decode b_Model_changeBits 0 = .ok (.iconst 0, 1) := by decide +kernel
theorem d_Model_changeBits_1 : decode b_Model_changeBits 1 = .ok (.istore_n 2, 1) := by decide +kernel
theorem d_Model_changeBits_2 : decode b_Model_changeBits 2 = .ok (.iload_n 2, 1) := by decide +kernel
theorem d_Model_changeBits_3 : decode b_Model_changeBits 3 = .ok (.iload_n 1, 1) := by decide +kernel
theorem d_Model_changeBits_4 : decode b_Model_changeBits 4 = .ok (.if_icmp .ge 67, 3) := by decide +kernel
theorem d_Model_changeBits_7 : decode b_Model_changeBits 7 = .ok (.aload_n 0, 1) := by decide +kernel
theorem d_Model_changeBits_8 : decode b_Model_changeBits 8 = .ok (.getfield 71, 3) := by decide +kernel
theorem d_Model_changeBits_11 : decode b_Model_changeBits 11 = .ok (.bipush 9, 2) := by decide +kernel
theorem d_Model_changeBits_13 : decode b_Model_changeBits 13 = .ok (.iload_n 1, 1) := by decide +kernel
theorem d_Model_changeBits_14 : decode b_Model_changeBits 14 = .ok (.iadd, 1) := by decide +kernel
theorem d_Model_changeBits_15 : decode b_Model_changeBits 15 = .ok (.iload_n 2, 1) := by decide +kernel
theorem d_Model_changeBits_16 : decode b_Model_changeBits 16 = .ok (.iadd, 1) := by decide +kernel
theorem d_Model_changeBits_17 : decode b_Model_changeBits 17 = .ok (.iaload, 1) := by decide +kernel
theorem d_Model_changeBits_18 : decode b_Model_changeBits 18 = .ok (.istore_n 3, 1) := by decide +kernel
theorem d_Model_changeBits_19 : decode b_Model_changeBits 19 = .ok (.aload_n 0, 1) := by decide +kernel
theorem d_Model_changeBits_20 : decode b_Model_changeBits 20 = .ok (.getfield 68, 3) := by decide +kernel
theorem d_Model_changeBits_23 : decode b_Model_changeBits 23 = .ok (.aload_n 0, 1) := by decide +kernel
theorem d_Model_changeBits_24 : decode b_Model_changeBits 24 = .ok (.getfield 71, 3) := by decide +kernel
theorem d_Model_changeBits_27 : decode b_Model_changeBits 27 = .ok (.bipush 6, 2) := by decide +kernel
theorem d_Model_changeBits_29 : decode b_Model_changeBits 29 = .ok (.iaload, 1) := by decide +kernel
theorem d_Model_changeBits_30 : decode b_Model_changeBits 30 = .ok (.iload_n 2, 1) := by decide +kernel
theorem d_Model_changeBits_31 : decode b_Model_changeBits 31 = .ok (.iadd, 1) := by decide +kernel
theorem d_Model_changeBits_32 : decode b_Model_changeBits 32 = .ok (.aload_n 0, 1) := by decide +kernel
theorem d_Model_changeBits_33 : decode b_Model_changeBits 33 = .ok (.getfield 71, 3) := by decide +kernel
theorem d_Model_changeBits_36 : decode b_Model_changeBits 36 = .ok (.bipush 9, 2) := by decide +kernel
theorem d_Model_changeBits_38 : decode b_Model_changeBits 38 = .ok (.iload_n 2, 1) := by decide +kernel
theorem d_Model_changeBits_39 : decode b_Model_changeBits 39 = .ok (.iadd, 1) := by decide +kernel
theorem d_Model_changeBits_40 : decode b_Model_changeBits 40 = .ok (.iaload, 1) := by decide +kernel
theorem d_Model_changeBits_41 : decode b_Model_changeBits 41 = .ok (.iload_n 3, 1) := by decide +kernel
theorem d_Model_changeBits_42 : decode b_Model_changeBits 42 = .ok (.iand, 1) := by decide +kernel
theorem d_Model_changeBits_43 : decode b_Model_changeBits 43 = .ok (.aload_n 0, 1) := by decide +kernel
theorem d_Model_changeBits_44 : decode b_Model_changeBits 44 = .ok (.getfield 68, 3) := by decide +kernel
theorem d_Model_changeBits_47 : decode b_Model_changeBits 47 = .ok (.aload_n 0, 1) := by decide +kernel
theorem d_Model_changeBits_48 : decode b_Model_changeBits 48 = .ok (.getfield 71, 3) := by decide +kernel
theorem d_Model_changeBits_51 : decode b_Model_changeBits 51 = .ok (.bipush 6, 2) := by decide +kernel
theorem d_Model_changeBits_53 : decode b_Model_changeBits 53 = .ok (.iaload, 1) := by decide +kernel
theorem d_Model_changeBits_54 : decode b_Model_changeBits 54 = .ok (.iload_n 2, 1) := by decide +kernel
theorem d_Model_changeBits_55 : decode b_Model_changeBits 55 = .ok (.iadd, 1) := by decide +kernel
theorem d_Model_changeBits_56 : decode b_Model_changeBits 56 = .ok (.iaload, 1) := by decide +kernel
theorem d_Model_changeBits_57 : decode b_Model_changeBits 57 = .ok (.sipush 255, 3) := by decide +kernel
theorem d_Model_changeBits_60 : decode b_Model_changeBits 60 = .ok (.iload_n 3, 1) := by decide +kernel
theorem d_Model_changeBits_61 : decode b_Model_changeBits 61 = .ok (.isub, 1) := by decide +kernel
theorem d_Model_changeBits_62 : decode b_Model_changeBits 62 = .ok (.iand, 1) := by decide +kernel
theorem d_Model_changeBits_63 : decode b_Model_changeBits 63 = .ok (.ior, 1) := by decide +kernel
theorem d_Model_changeBits_64 : decode b_Model_changeBits 64 = .ok (.iastore, 1) := by decide +kernel
theorem d_Model_changeBits_65 : decode b_Model_changeBits 65 = .ok (.iinc 2 1, 3) := by decide +kernel
theorem d_Model_changeBits_68 : decode b_Model_changeBits 68 = .ok (.goto (-66), 3) := by decide +kernel
theorem d_Model_changeBits_71 : decode b_Model_changeBits 71 = .ok (.return_, 1) := by decide +kernel
theorem d_Model_obey_0 : decode b_Model_obey 0 = .ok (.aload_n 0, 1) := by decide +kernel
theorem d_Model_obey_1 : decode b_Model_obey 1 = .ok (.dup, 1) := by decide +kernel
theorem d_Model_obey_2 : decode b_Model_obey 2 = .ok (.getfield 148, 3) := by decide +kernel
theorem d_Model_obey_5 : decode b_Model_obey 5 = .ok (.iconst 1, 1) := by decide +kernel
theorem d_Model_obey_6 : decode b_Model_obey 6 = .ok (.iadd, 1) := by decide +kernel
theorem d_Model_obey_7 : decode b_Model_obey 7 = .ok (.putfield 148, 3) := by decide +kernel
theorem d_Model_obey_10 : decode b_Model_obey 10 = .ok (.aload_n 0, 1) := by decide +kernel
theorem d_Model_obey_11 : decode b_Model_obey 11 = .ok (.aload_n 0, 1) := by decide +kernel
theorem d_Model_obey_12 : decode b_Model_obey 12 = .ok (.invokevirtual 151, 3) := by decide +kernel
theorem d_Model_obey_15 : decode b_Model_obey 15 = .ok (.putfield 74, 3) := by decide +kernel
theorem d_Model_obey_18 : decode b_Model_obey 18 = .ok (.aload_n 0, 1) := by decide +kernel
theorem d_Model_obey_19 : decode b_Model_obey 19 = .ok (.bipush 32, 2) := by decide +kernel
theorem d_Model_obey_21 : decode b_Model_obey 21 = .ok (.invokevirtual 133, 3) := by decide +kernel
theorem d_Model_obey_24 : decode b_Model_obey 24 = .ok (.istore_n 1, 1) := by decide +kernel
theorem d_Model_obey_25 : decode b_Model_obey 25 = .ok (.iload_n 1, 1) := by decide +kernel
theorem d_Model_obey_26 : decode b_Model_obey 26 = .ok (.ifCond .ne 16, 3) := by decide +kernel
theorem d_Model_obey_29 : decode b_Model_obey 29 = .ok (.aload_n 0, 1) := by decide +kernel
theorem d_Model_obey_30 : decode b_Model_obey 30 = .ok (.bipush 16, 2) := by decide +kernel
theorem d_Model_obey_32 : decode b_Model_obey 32 = .ok (.invokevirtual 133, 3) := by decide +kernel
theorem d_Model_obey_35 : decode b_Model_obey 35 = .ok (.ifCond .eq 7, 3) := by decide +kernel
theorem d_Model_obey_38 : decode b_Model_obey 38 = .ok (.iconst 1, 1) := by decide +kernel
theorem d_Model_obey_39 : decode b_Model_obey 39 = .ok (.goto 4, 3) := by decide +kernel
theorem d_Model_obey_42 : decode b_Model_obey 42 = .ok (.iconst 0, 1) := by decide +kernel
theorem d_Model_obey_43 : decode b_Model_obey 43 = .ok (.istore_n 2, 1) := by decide +kernel
theorem d_Model_obey_44 : decode b_Model_obey 44 = .ok (.iload_n 1, 1) := by decide +kernel
theorem d_Model_obey_45 : decode b_Model_obey 45 = .ok (.ifCond .ne 10, 3) := by decide +kernel
theorem d_Model_obey_48 : decode b_Model_obey 48 = .ok (.aload_n 0, 1) := by decide +kernel
theorem d_Model_obey_49 : decode b_Model_obey 49 = .ok (.getfield 74, 3) := by decide +kernel
theorem d_Model_obey_52 : decode b_Model_obey 52 = .ok (.ifCond .eq 7, 3) := by decide +kernel
theorem d_Model_obey_55 : decode b_Model_obey 55 = .ok (.iconst 0, 1) := by decide +kernel
theorem d_Model_obey_56 : decode b_Model_obey 56 = .ok (.goto 26, 3) := by decide +kernel
theorem d_Model_obey_59 : decode b_Model_obey 59 = .ok (.iload_n 2, 1) := by decide +kernel
theorem d_Model_obey_60 : decode b_Model_obey 60 = .ok (.ifCond .eq 15, 3) := by decide +kernel
theorem d_Model_obey_63 : decode b_Model_obey 63 = .ok (.aload_n 0, 1) := by decide +kernel
theorem d_Model_obey_64 : decode b_Model_obey 64 = .ok (.getfield 71, 3) := by decide +kernel
theorem d_Model_obey_67 : decode b_Model_obey 67 = .ok (.bipush 7, 2) := by decide +kernel
theorem d_Model_obey_69 : decode b_Model_obey 69 = .ok (.iaload, 1) := by decide +kernel
theorem d_Model_obey_70 : decode b_Model_obey 70 = .ok (.iconst 2, 1) := by decide +kernel
theorem d_Model_obey_71 : decode b_Model_obey 71 = .ok (.idiv, 1) := by decide +kernel
theorem d_Model_obey_72 : decode b_Model_obey 72 = .ok (.goto 10, 3) := by decide +kernel
theorem d_Model_obey_75 : decode b_Model_obey 75 = .ok (.aload_n 0, 1) := by decide +kernel
theorem d_Model_obey_76 : decode b_Model_obey 76 = .ok (.getfield 71, 3) := by decide +kernel
theorem d_Model_obey_79 : decode b_Model_obey 79 = .ok (.bipush 7, 2) := by decide +kernel
theorem d_Model_obey_81 : decode b_Model_obey 81 = .ok (.iaload, 1) := by decide +kernel
theorem d_Model_obey_82 : decode b_Model_obey 82 = .ok (.istore_n 3, 1) := by decide +kernel
theorem d_Model_obey_83 : decode b_Model_obey 83 = .ok (.aload_n 0, 1) := by decide +kernel
theorem d_Model_obey_84 : decode b_Model_obey 84 = .ok (.bipush 8, 2) := by decide +kernel
theorem d_Model_obey_86 : decode b_Model_obey 86 = .ok (.invokevirtual 133, 3) := by decide +kernel
theorem d_Model_obey_89 : decode b_Model_obey 89 = .ok (.ifCond .eq 117, 3) := by decide +kernel
theorem d_Model_obey_92 : decode b_Model_obey 92 = .ok (.aload_n 0, 1) := by decide +kernel
theorem d_Model_obey_93 : decode b_Model_obey 93 = .ok (.bipush 67, 2) := by decide +kernel
theorem d_Model_obey_95 : decode b_Model_obey 95 = .ok (.invokevirtual 145, 3) := by decide +kernel
theorem d_Model_obey_98 : decode b_Model_obey 98 = .ok (.aload_n 0, 1) := by decide +kernel
theorem d_Model_obey_99 : decode b_Model_obey 99 = .ok (.iconst 1, 1) := by decide +kernel
theorem d_Model_obey_100 : decode b_Model_obey 100 = .ok (.invokevirtual 145, 3) := by decide +kernel
theorem d_Model_obey_103 : decode b_Model_obey 103 = .ok (.aload_n 0, 1) := by decide +kernel
theorem d_Model_obey_104 : decode b_Model_obey 104 = .ok (.aload_n 0, 1) := by decide +kernel
theorem d_Model_obey_105 : decode b_Model_obey 105 = .ok (.getfield 71, 3) := by decide +kernel
theorem d_Model_obey_108 : decode b_Model_obey 108 = .ok (.iconst 2, 1) := by decide +kernel
theorem d_Model_obey_109 : decode b_Model_obey 109 = .ok (.iaload, 1) := by decide +kernel
theorem d_Model_obey_110 : decode b_Model_obey 110 = .ok (.sipush 191, 3) := by decide +kernel
theorem d_Model_obey_113 : decode b_Model_obey 113 = .ok (.iand, 1) := by decide +kernel
theorem d_Model_obey_114 : decode b_Model_obey 114 = .ok (.invokevirtual 145, 3) := by decide +kernel
theorem d_Model_obey_117 : decode b_Model_obey 117 = .ok (.aload_n 0, 1) := by decide +kernel
theorem d_Model_obey_118 : decode b_Model_obey 118 = .ok (.aload_n 0, 1) := by decide +kernel
theorem d_Model_obey_119 : decode b_Model_obey 119 = .ok (.getfield 74, 3) := by decide +kernel
theorem d_Model_obey_122 : decode b_Model_obey 122 = .ok (.invokevirtual 145, 3) := by decide +kernel
theorem d_Model_obey_125 : decode b_Model_obey 125 = .ok (.aload_n 0, 1) := by decide +kernel
theorem d_Model_obey_126 : decode b_Model_obey 126 = .ok (.aload_n 0, 1) := by decide +kernel
theorem d_Model_obey_127 : decode b_Model_obey 127 = .ok (.getfield 71, 3) := by decide +kernel
theorem d_Model_obey_130 : decode b_Model_obey 130 = .ok (.iconst 4, 1) := by decide +kernel
theorem d_Model_obey_131 : decode b_Model_obey 131 = .ok (.iaload, 1) := by decide +kernel
theorem d_Model_obey_132 : decode b_Model_obey 132 = .ok (.invokevirtual 145, 3) := by decide +kernel
theorem d_Model_obey_135 : decode b_Model_obey 135 = .ok (.aload_n 0, 1) := by decide +kernel
theorem d_Model_obey_136 : decode b_Model_obey 136 = .ok (.aload_n 0, 1) := by decide +kernel
theorem d_Model_obey_137 : decode b_Model_obey 137 = .ok (.getfield 71, 3) := by decide +kernel
theorem d_Model_obey_140 : decode b_Model_obey 140 = .ok (.iconst 5, 1) := by decide +kernel
theorem d_Model_obey_141 : decode b_Model_obey 141 = .ok (.iaload, 1) := by decide +kernel
theorem d_Model_obey_142 : decode b_Model_obey 142 = .ok (.invokevirtual 145, 3) := by decide +kernel
theorem d_Model_obey_145 : decode b_Model_obey 145 = .ok (.iload_n 1, 1) := by decide +kernel
theorem d_Model_obey_146 : decode b_Model_obey 146 = .ok (.ifCond .ne 8, 3) := by decide +kernel
theorem d_Model_obey_149 : decode b_Model_obey 149 = .ok (.aload_n 0, 1) := by decide +kernel
theorem d_Model_obey_150 : decode b_Model_obey 150 = .ok (.iload_n 3, 1) := by decide +kernel
theorem d_Model_obey_151 : decode b_Model_obey 151 = .ok (.invokevirtual 145, 3) := by decide +kernel
theorem d_Model_obey_154 : decode b_Model_obey 154 = .ok (.aload_n 0, 1) := by decide +kernel
theorem d_Model_obey_155 : decode b_Model_obey 155 = .ok (.iconst 0, 1) := by decide +kernel
theorem d_Model_obey_156 : decode b_Model_obey 156 = .ok (.invokevirtual 155, 3) := by decide +kernel
theorem d_Model_obey_159 : decode b_Model_obey 159 = .ok (.iload_n 1, 1) := by decide +kernel
theorem d_Model_obey_160 : decode b_Model_obey 160 = .ok (.ifCond .ne 39, 3) := by decide +kernel
theorem d_Model_obey_163 : decode b_Model_obey 163 = .ok (.iconst 0, 1) := by decide +kernel
theorem d_Model_obey_164 : decode b_Model_obey 164 = .ok (.istore 4, 2) := by decide +kernel
theorem d_Model_obey_166 : decode b_Model_obey 166 = .ok (.iload 4, 2) := by decide +kernel
theorem d_Model_obey_168 : decode b_Model_obey 168 = .ok (.iload_n 3, 1) := by decide +kernel
theorem d_Model_obey_169 : decode b_Model_obey 169 = .ok (.if_icmp .ge 24, 3) := by decide +kernel
theorem d_Model_obey_172 : decode b_Model_obey 172 = .ok (.aload_n 0, 1) := by decide +kernel
theorem d_Model_obey_173 : decode b_Model_obey 173 = .ok (.aload_n 0, 1) := by decide +kernel
theorem d_Model_obey_174 : decode b_Model_obey 174 = .ok (.getfield 68, 3) := by decide +kernel
theorem d_Model_obey_177 : decode b_Model_obey 177 = .ok (.aload_n 0, 1) := by decide +kernel
theorem d_Model_obey_178 : decode b_Model_obey 178 = .ok (.iload 4, 2) := by decide +kernel
theorem d_Model_obey_180 : decode b_Model_obey 180 = .ok (.invokevirtual 139, 3) := by decide +kernel
theorem d_Model_obey_183 : decode b_Model_obey 183 = .ok (.iaload, 1) := by decide +kernel
theorem d_Model_obey_184 : decode b_Model_obey 184 = .ok (.invokevirtual 145, 3) := by decide +kernel
theorem d_Model_obey_187 : decode b_Model_obey 187 = .ok (.iinc 4 1, 3) := by decide +kernel
theorem d_Model_obey_190 : decode b_Model_obey 190 = .ok (.goto (-24), 3) := by decide +kernel
theorem d_Model_obey_193 : decode b_Model_obey 193 = .ok (.aload_n 0, 1) := by decide +kernel
theorem d_Model_obey_194 : decode b_Model_obey 194 = .ok (.bipush 8, 2) := by decide +kernel
theorem d_Model_obey_196 : decode b_Model_obey 196 = .ok (.invokevirtual 155, 3) := by decide +kernel
theorem d_Model_obey_199 : decode b_Model_obey 199 = .ok (.aload_n 0, 1) := by decide +kernel
theorem d_Model_obey_200 : decode b_Model_obey 200 = .ok (.sipush 256, 3) := by decide +kernel
theorem d_Model_obey_203 : decode b_Model_obey 203 = .ok (.invokevirtual 145, 3) := by decide +kernel
theorem d_Model_obey_206 : decode b_Model_obey 206 = .ok (.iload_n 1, 1) := by decide +kernel
theorem d_Model_obey_207 : decode b_Model_obey 207 = .ok (.ifCond .eq 10, 3) := by decide +kernel
theorem d_Model_obey_210 : decode b_Model_obey 210 = .ok (.aload_n 0, 1) := by decide +kernel
theorem d_Model_obey_211 : decode b_Model_obey 211 = .ok (.invokevirtual 158, 3) := by decide +kernel
theorem d_Model_obey_214 : decode b_Model_obey 214 = .ok (.goto 12, 3) := by decide +kernel
theorem d_Model_obey_217 : decode b_Model_obey 217 = .ok (.iload_n 2, 1) := by decide +kernel
theorem d_Model_obey_218 : decode b_Model_obey 218 = .ok (.ifCond .eq 8, 3) := by decide +kernel
theorem d_Model_obey_221 : decode b_Model_obey 221 = .ok (.aload_n 0, 1) := by decide +kernel
theorem d_Model_obey_222 : decode b_Model_obey 222 = .ok (.iload_n 3, 1) := by decide +kernel
theorem d_Model_obey_223 : decode b_Model_obey 223 = .ok (.invokevirtual 161, 3) := by decide +kernel
theorem d_Model_obey_226 : decode b_Model_obey 226 = .ok (.return_, 1) := by decide +kernel
theorem goes_su {su b y : Int32} (hy : y = if su = 0 then 1 else (if su < 4 then 0 else (if 6 < su then 0 else (if b = 0 then 1 else 0)))) (h : ¬ y = 0) : su = 0 ∨ (4 ≤ su ∧ su ≤ 6) := by
  subst hy
  by_cases a : su = 0
  · exact Or.inl a
  · rw [if_neg a] at h
    by_cases c : su < 4
    · rw [if_pos c] at h; exact absurd rfl h
    · rw [if_neg c] at h
      by_cases d : 6 < su
      · rw [if_pos d] at h; exact absurd rfl h
      · exact Or.inr ⟨Int32.not_lt.mp c, Int32.not_lt.mp d⟩
theorem clamp_le {w p : Int32} (h : w ≤ p) : w.toNatClampNeg ≤ p.toNatClampNeg := Int.toNat_le_toNat (Int32.le_iff_toInt_le.mp h)
theorem lt_w7 {w a p : Int32} {j : Nat} (hw : w = if a ≤ p then a else p) (hj : j ≤ w.toNatClampNeg) (h : ¬ w ≤ nI j) : j < p.toNatClampNeg := by
  have h1 := xle_w hj h
  have h2 : w ≤ p := by
    subst hw
    by_cases c : a ≤ p
    · rw [if_pos c]; exact c
    · rw [if_neg c]; exact Int32.le_refl _
  exact Nat.lt_of_lt_of_le h1 (clamp_le h2)
theorem bnd_ex {α β : Type} {x : α} {k : α → β} {s : β} (h : bnd x k = s) : ∃ y, y = x ∧ k y = s := ⟨x, rfl, h⟩
theorem j151 {pk : Nat → Int32} {kc n a m : Nat} {y su : Int32} (h6 : pk 6 = nI a) (ha : a < 256) (hm : (if y = 0 then nI n else nI n / 2) = nI m) (hm2 : m ≤ 16) (h : s_Model_judge_151 pk kc n y = su) (hs : su = 0 ∨ (4 ≤ su ∧ su ≤ 6)) : a ≤ 31 ∧ (¬ s_Model_has pk 4 = 0 → a + m ≤ 32) := by
  unfold s_Model_judge_151 at h
  obtain ⟨y10, hy10, h⟩ := bnd_ex h
  obtain ⟨y13, hle, h⟩ := bnd_ex h
  try dsimp only at h
  rw [hm] at hy10
  rw [hy10, h6] at hle
  by_cases c : y13 ≤ 31
  · rw [hle] at c
    by_cases h4 : s_Model_has pk 4 = 0
    · rw [if_pos h4] at c
      have h9 := (nI_leI (b := 31) (by omega) (by decide)).mp c
      exact ⟨h9, fun h8 => absurd h4 h8⟩
    · rw [if_neg h4] at c
      by_cases hm0 : nI m ≤ 0
      · rw [if_pos hm0] at c
        have h9 := (nI_leI (b := 31) (by omega) (by decide)).mp c
        have h8 := (nI_leI (b := 0) (by omega) (by decide)).mp hm0
        exact ⟨h9, fun _ => by omega⟩
      · have h8 : 0 < m := by
          rcases Nat.eq_zero_or_pos m with e | e
          · exact absurd (by rw [e]; exact Int32.le_refl _) hm0
          · exact e
        rw [if_neg hm0, nI_add, xsub1 (by omega)] at c
        have h9 := (nI_leI (b := 31) (by omega) (by decide)).mp c
        exact ⟨by omega, fun _ => by omega⟩
  · rw [if_neg c] at h
    subst h
    exact absurd hs (by decide)
/-- what a good judgement says of the packet -/
theorem judge_ok {pk : Nat → Int32} {kc : Nat} {su ch : Int32} (hbf : BF pk) (hch : ch = if s_Model_has pk 32 = 0 then (if s_Model_has pk 16 = 0 then 0 else 1) else 0) (hsu : s_Model_judge pk kc = su) (hs : su = 0 ∨ (4 ≤ su ∧ su ≤ 6)) : ∃ n a : Nat, pk 7 = nI n ∧ pk 6 = nI a ∧ n ≤ 16 ∧ a ≤ 31 ∧ (ch = 0 → ¬ s_Model_has pk 4 = 0 → a + n ≤ 32) ∧ (¬ ch = 0 → n ≤ 8 ∧ ¬ s_Model_has pk 4 = 0 ∧ a + n / 2 ≤ 32) := by
  obtain ⟨n, hn, e7⟩ := hbf 7
  obtain ⟨a, ha, e6⟩ := hbf 6
  unfold s_Model_judge at hsu
  obtain ⟨ln, hln, hsu⟩ := bnd_ex hsu
  obtain ⟨y3, hy3, hsu⟩ := bnd_ex hsu
  obtain ⟨y6, hy6, hsu⟩ := bnd_ex hsu
  try dsimp only at hsu
  rw [e7, nI_clamp (by omega)] at hln
  subst hln
  rw [← hch] at hy3
  subst hy3
  by_cases hk : y6 = 0
  · rw [if_pos hk] at hsu; subst hsu; exact absurd hs (by decide)
  · rw [if_neg hk] at hsu
    by_cases h3 : pk 3 = 32
    · rw [if_pos h3] at hsu
      by_cases h16 : 16 < nI ln
      · rw [if_pos h16] at hsu; subst hsu; exact absurd hs (by decide)
      · rw [if_neg h16] at hsu
        have h16' : ln ≤ 16 := Nat.le_of_not_lt fun h9 => h16 (nI_lt (a := 16) h9 (by omega))
        by_cases hc0 : y3 = 0
        · rw [if_pos hc0] at hsu
          obtain ⟨g1, g2⟩ := j151 (m := ln) e6 ha (by rw [if_pos hc0]) h16' hsu hs
          exact ⟨ln, a, e7, e6, h16', g1, fun _ => g2, fun h9 => absurd hc0 h9⟩
        · rw [if_neg hc0] at hsu
          by_cases hz : nI ln = 0
          · rw [if_pos hz] at hsu; subst hsu; exact absurd hs (by decide)
          · rw [if_neg hz] at hsu
            by_cases h8 : 8 < nI ln
            · rw [if_pos h8] at hsu; subst hsu; exact absurd hs (by decide)
            · rw [if_neg h8] at hsu
              have h8' : ln ≤ 8 := Nat.le_of_not_lt fun h9 => h8 (nI_lt (a := 8) h9 (by omega))
              by_cases ho : nI ln - nI ln / 2 * 2 = 1
              · rw [if_pos ho] at hsu; subst hsu; exact absurd hs (by decide)
              · rw [if_neg ho] at hsu
                obtain ⟨g1, g2⟩ := j151 (m := ln / 2) e6 ha (by rw [if_neg hc0, show (2 : Int32) = nI 2 from rfl, pk_div (by omega) (by decide) (by decide)]) (by omega) hsu hs
                have h4 : ¬ s_Model_has pk 4 = 0 := by
                  intro h4
                  apply hk
                  have h32 : s_Model_has pk 32 = 0 := by
                    by_cases h32 : s_Model_has pk 32 = 0
                    · exact h32
                    · rw [if_neg h32] at hch; exact absurd hch hc0
                  rw [hy6, if_pos h32, if_neg hc0, if_pos h4]
                  repeat' split
                  all_goals rfl
                exact ⟨ln, a, e7, e6, h16', g1, fun h9 => absurd h9 hc0, fun _ => ⟨h8', h4, g2 h4⟩⟩
    · rw [if_neg h3] at hsu; subst hsu; exact absurd hs (by decide)
theorem adr_in {pk : Nat → Int32} {a m j : Nat} (e6 : pk 6 = nI a) (ha : a ≤ 31) (h : ¬ s_Model_has pk 4 = 0 → a + m ≤ 32) (hj : j < m) : ∃ b : Nat, b < 32 ∧ s_Model_addressOf pk (nI j) = nI b := by
  simp only [s_Model_addressOf, bnd]
  by_cases h4 : s_Model_has pk 4 = 0
  · rw [if_pos h4, e6]; exact ⟨a, by omega, rfl⟩
  · have h5 := h h4
    rw [if_neg h4, e6, nI_add]; exact ⟨a + j, by omega, rfl⟩
theorem jf_w {pk : Nat → Int32} {kc : Nat} (hbf : BF pk) (h32 : ¬ s_Model_has pk 32 = 0) (hs : s_Model_judge pk kc = 0 ∨ (4 ≤ s_Model_judge pk kc ∧ s_Model_judge pk kc ≤ 6)) : ∀ j : Nat, j < (pk 7).toNatClampNeg → (∃ a : Nat, a < 32 ∧ s_Model_addressOf pk (nI j) = nI a) ∧ 9 + j < 40 := by
  obtain ⟨n, a, e7, e6, hn, ha, g1, -⟩ := judge_ok (ch := 0) hbf (by rw [if_neg h32]) rfl hs
  intro j hj
  rw [e7, nI_clamp (by omega)] at hj
  exact ⟨adr_in e6 ha (g1 rfl) hj, by omega⟩
theorem jf_an {pk : Nat → Int32} {kc : Nat} {ch an : Int32} (hbf : BF pk) (hch : ch = if s_Model_has pk 32 = 0 then (if s_Model_has pk 16 = 0 then 0 else 1) else 0) (han : an = if s_Model_has pk 32 = 0 then (if s_Model_judge pk kc = 0 then (if ch = 0 then pk 7 else pk 7 / 2) else 0) else 0) : ¬ an < 0 ∧ an.toNatClampNeg ≤ 16 ∧ (∀ j : Nat, j < an.toNatClampNeg → ∃ a : Nat, a < 32 ∧ s_Model_addressOf pk (nI j) = nI a) ∧ (¬ ch = 0 → an.toNatClampNeg ≤ 8 ∧ ∀ j : Nat, j < an.toNatClampNeg → ∃ a : Nat, a < 32 ∧ pk 6 + nI j = nI a) := by
  have key : ∀ m : Nat, an = nI m → m ≤ 16 → (∀ j, j < m → ∃ a : Nat, a < 32 ∧ s_Model_addressOf pk (nI j) = nI a) → (¬ ch = 0 → m ≤ 8 ∧ ∀ j : Nat, j < m → ∃ a : Nat, a < 32 ∧ pk 6 + nI j = nI a) → ¬ an < 0 ∧ an.toNatClampNeg ≤ 16 ∧ (∀ j : Nat, j < an.toNatClampNeg → ∃ a : Nat, a < 32 ∧ s_Model_addressOf pk (nI j) = nI a) ∧ (¬ ch = 0 → an.toNatClampNeg ≤ 8 ∧ ∀ j : Nat, j < an.toNatClampNeg → ∃ a : Nat, a < 32 ∧ pk 6 + nI j = nI a) := by
    intro m e hm k1 k2
    rw [e, nI_clamp (by omega)]
    exact ⟨nI_pos (by omega), hm, k1, k2⟩
  have zero : an = 0 → _ := fun e => key 0 e (by decide) (fun j hj => absurd hj (Nat.not_lt_zero _)) (fun _ => ⟨by decide, fun j hj => absurd hj (Nat.not_lt_zero _)⟩)
  by_cases h32 : s_Model_has pk 32 = 0
  · rw [if_pos h32] at han
    by_cases hj0 : s_Model_judge pk kc = 0
    · rw [if_pos hj0] at han
      obtain ⟨n, a, e7, e6, hn, ha, g1, g2⟩ := judge_ok hbf hch rfl (Or.inl hj0)
      by_cases hc0 : ch = 0
      · rw [if_pos hc0, e7] at han
        exact key n han hn (fun j hj => adr_in e6 ha (g1 hc0) hj) (fun h9 => absurd hc0 h9)
      · obtain ⟨h8, h4, h5⟩ := g2 hc0
        rw [if_neg hc0, e7, show (2 : Int32) = nI 2 from rfl, pk_div (by omega) (by decide) (by decide)] at han
        refine key (n / 2) han (by omega) (fun j hj => adr_in e6 ha (fun _ => h5) hj) (fun _ => ⟨by omega, fun j hj => ?_⟩)
        rw [e6, nI_add]; exact ⟨a + j, by omega, rfl⟩
    · rw [if_neg hj0] at han; exact zero han
  · rw [if_neg h32] at han; exact zero han
def lp_mwrite (pk : Nat → Int32) (gs : Int32) (wq : Int32) : Nat → Nat → (Nat → Int32) → (Nat → Int32)
  | 0, j, me1 => me1
  | nlp_mwrite + 1, j, me1 => if wq ≤ (nI j) then (me1) else (if gs = 0 then (me1) else (lp_mwrite pk gs wq nlp_mwrite (j + 1) (upd me1 ((s_Model_addressOf pk (nI j)).toNatClampNeg) (pk (9 + j)))))
def s_Model_writeData (me : Nat → Int32) (pk : Nat → Int32) (kc : Nat) (su : Int32) : (Nat → Int32) := bnd (α := Int32) (if su = 0 then (1) else (if su < 4 then (0) else (if 6 < su then (0) else (if (s_Model_has pk 16) = 0 then (1) else (0))))) (fun y2 => bnd (α := Int32) (y2) (fun gs => bnd (α := Int32) (if ((nI kc) - 9) ≤ (pk 7) then ((nI kc) - 9) else (pk 7)) (fun y4 => bnd (α := Int32) (y4) (fun wq => lp_mwrite pk gs wq (wq.toNatClampNeg - 0) 0 me))))
abbrev rm_Model_writeData : Room := { frames := 2, cells := 0, slots := 0, locals := 42 }
set_option maxHeartbeats 1000000 in
set_option maxRecDepth 100000 in
theorem c_Model_writeData {l : Launch} {D : va_G} {cI cZ : ClassId} (me : Nat → Int32) (pk : Nat → Int32) (kc : Nat) (su : Int32) (h0 : Nat) (a_st : Nat) (a_ck : Nat) (a_en : Nat) (a_au : Nat) (a_he : Nat) (a_qu : Nat) (a_lo : Nat) (a_ow : Nat) (a_fl : Nat) (a_ti : Nat) (a_gd : Nat) (a_ak : Nat) (a_sp : Nat) (a_se : Nat) (a_sd : Nat) (a_rw : Nat) (a_sz : Nat) (a_op : Nat) (a_th : Nat) (a_me : Nat) (a_pk : Nat) (a_re : Nat) (a_dr : Nat) (tg : Int32) (cm : Int32) (kq : Nat) (hW : (su = 0 ∨ (4 ≤ su ∧ su ≤ 6)) → ∀ j : Nat, j < (pk 7).toNatClampNeg → (∃ a : Nat, a < 32 ∧ s_Model_addressOf pk (nI j) = nI a) ∧ 9 + j < 40) (sz : Nat) : Met l y_Model_writeData (w_Model_writeData) rm_Model_writeData (va_Pc [.ref h0] (xPre xNs D vwCl cI cZ [(h0, .inr (7, [.int tg, .ref a_st, .ref a_ck, .ref a_en, .ref a_au, .ref a_he, .ref a_qu, .ref a_lo, .ref a_ow, .ref a_fl, .ref a_ti, .ref a_gd, .ref a_ak, .ref a_sp, .ref a_se, .ref a_sd, .ref a_rw, .ref a_sz, .ref a_op, .ref a_th, .ref a_me, .ref a_pk, .int (nI kc), .int cm, .int su, .ref a_re, .int (nI kq), .ref a_dr])), (a_me, .inl (cI, 32, .inl me)), (a_pk, .inl (cI, 40, .inl pk))] sz)) (va_Qv (fun (u : (Nat → Int32)) => u = s_Model_writeData me pk kc su) (fun u t9 => xAt D vwCl (va_A [(h0, .inr (7, [.int tg, .ref a_st, .ref a_ck, .ref a_en, .ref a_au, .ref a_he, .ref a_qu, .ref a_lo, .ref a_ow, .ref a_fl, .ref a_ti, .ref a_gd, .ref a_ak, .ref a_sp, .ref a_se, .ref a_sd, .ref a_rw, .ref a_sz, .ref a_op, .ref a_th, .ref a_me, .ref a_pk, .int (nI kc), .int cm, .int su, .ref a_re, .int (nI kq), .ref a_dr])), (a_me, .inl (cI, 32, .inl me)), (a_pk, .inl (cI, 40, .inl pk))] sz) [(h0, .inr (7, [.int tg, .ref a_st, .ref a_ck, .ref a_en, .ref a_au, .ref a_he, .ref a_qu, .ref a_lo, .ref a_ow, .ref a_fl, .ref a_ti, .ref a_gd, .ref a_ak, .ref a_sp, .ref a_se, .ref a_sd, .ref a_rw, .ref a_sz, .ref a_op, .ref a_th, .ref a_me, .ref a_pk, .int (nI kc), .int cm, .int su, .ref a_re, .int (nI kq), .ref a_dr])), (a_me, .inl (cI, 32, .inl u)), (a_pk, .inl (cI, 40, .inl pk))] t9) (va_A [(h0, .inr (7, [.int tg, .ref a_st, .ref a_ck, .ref a_en, .ref a_au, .ref a_he, .ref a_qu, .ref a_lo, .ref a_ow, .ref a_fl, .ref a_ti, .ref a_gd, .ref a_ak, .ref a_sp, .ref a_se, .ref a_sd, .ref a_rw, .ref a_sz, .ref a_op, .ref a_th, .ref a_me, .ref a_pk, .int (nI kc), .int cm, .int su, .ref a_re, .int (nI kq), .ref a_dr])), (a_me, .inl (cI, 32, .inl me)), (a_pk, .inl (cI, 40, .inl pk))] sz)) 0 0 (va_A [(h0, .inr (7, [.int tg, .ref a_st, .ref a_ck, .ref a_en, .ref a_au, .ref a_he, .ref a_qu, .ref a_lo, .ref a_ow, .ref a_fl, .ref a_ti, .ref a_gd, .ref a_ak, .ref a_sp, .ref a_se, .ref a_sd, .ref a_rw, .ref a_sz, .ref a_op, .ref a_th, .ref a_me, .ref a_pk, .int (nI kc), .int cm, .int su, .ref a_re, .int (nI kq), .ref a_dr])), (a_me, .inl (cI, 32, .inl me)), (a_pk, .inl (cI, 40, .inl pk))] sz) := by
  refine xBody_v (S := (Nat → Int32)) (cc := b_Model_writeData) (maxL := 4) (by decide) rfl (Nat.le_of_ble_eq_true rfl) ?_
  intro p e s m args below meth c A H ls Q hx hb hml hin hts hown hP hD hK hN hS hA hl hret
  replace hl : lv_has ls 4 [(0, .ref h0)] := hl
  have hin_Model : ∀ w ∈ u_ws R_Model F_Model 28, w ∈ (w_Model_writeData) := (fun w h => xm (lay_Model w h))
  have hq : s_Model_writeData me pk kc su = (bnd (α := Int32) (if su = 0 then (1) else (if su < 4 then (0) else (if 6 < su then (0) else (if (s_Model_has pk 16) = 0 then (1) else (0))))) (fun y2 => bnd (α := Int32) (y2) (fun gs => bnd (α := Int32) (if ((nI kc) - 9) ≤ (pk 7) then ((nI kc) - 9) else (pk 7)) (fun y4 => bnd (α := Int32) (y4) (fun wq => lp_mwrite pk gs wq (wq.toNatClampNeg - 0) 0 me))))) := rfl
  refine lv_aload_n hx hb d_Model_writeData_0 rfl (lv_at hl 0 rfl) ?_
  refine va_get (D := D) (ci := 7) (v := .int su) (C := R_Model) (T := F_Model) (N := 28) hx hb hts hin_Model hown hK hP 0 rfl rfl 24 (by decide) (hts _ (xm ww_557)) (fun _ h9 => h9) rfl d_Model_writeData_1 ?_
  have J1 : ∀ (y2 : Int32) (H : Heap) (locs : List Loc), y2 = (if su = 0 then (1) else (if su < 4 then (0) else (if 6 < su then (0) else (if (s_Model_has pk 16) = 0 then (1) else (0))))) → xB y2 → va_P D vwCl [(h0, .inr (7, [.int tg, .ref a_st, .ref a_ck, .ref a_en, .ref a_au, .ref a_he, .ref a_qu, .ref a_lo, .ref a_ow, .ref a_fl, .ref a_ti, .ref a_gd, .ref a_ak, .ref a_sp, .ref a_se, .ref a_sd, .ref a_rw, .ref a_sz, .ref a_op, .ref a_th, .ref a_me, .ref a_pk, .int (nI kc), .int cm, .int su, .ref a_re, .int (nI kq), .ref a_dr])), (a_me, .inl (cI, 32, .inl me)), (a_pk, .inl (cI, 40, .inl pk))] H → va_D A [(h0, .inr (7, [.int tg, .ref a_st, .ref a_ck, .ref a_en, .ref a_au, .ref a_he, .ref a_qu, .ref a_lo, .ref a_ow, .ref a_fl, .ref a_ti, .ref a_gd, .ref a_ak, .ref a_sp, .ref a_se, .ref a_sd, .ref a_rw, .ref a_sz, .ref a_op, .ref a_th, .ref a_me, .ref a_pk, .int (nI kc), .int cm, .int su, .ref a_re, .int (nI kq), .ref a_dr])), (a_me, .inl (cI, 32, .inl me)), (a_pk, .inl (cI, 40, .inl pk))] → va_S A s.heap H locs → W p l e rm_Model_writeData s m args below meth c H locs 0 0 Q (F0 m 38 ls [.int y2]) := by
    intro y2 H locs hy2 hby2 hP hD hS
    replace hq := hq.trans (bnd_eq hy2)
    try dsimp only at hq
    refine lv_topi (fun gs hgs => ?_)
    replace hq := hq.trans (bnd_eq hgs)
    try dsimp only at hq
    refine lv_istore_n hx hb d_Model_writeData_38 rfl hl (by decide) rfl (fun ls hl => ?_)
    replace hl : lv_has ls 4 [(1, .int gs), (0, .ref h0)] := hl
    refine lv_aload_n hx hb d_Model_writeData_39 rfl (lv_at hl 1 rfl) ?_
    refine va_get (D := D) (ci := 7) (v := .ref a_pk) (C := R_Model) (T := F_Model) (N := 28) hx hb hts hin_Model hown hK hP 0 rfl rfl 21 (by decide) (hts _ (xm ww_554)) (fun _ h9 => h9) rfl d_Model_writeData_40 ?_
    refine lv_bipush (v := 7) hx hb d_Model_writeData_43 rfl ?_
    refine xiald (k := 7) hx hb hK hP 2 0 rfl rfl rfl (by decide) (by decide) d_Model_writeData_45 ?_
    refine lv_aload_n hx hb d_Model_writeData_46 rfl (lv_at hl 1 rfl) ?_
    refine va_get (D := D) (ci := 7) (v := .int (nI kc)) (C := R_Model) (T := F_Model) (N := 28) hx hb hts hin_Model hown hK hP 0 rfl rfl 22 (by decide) (hts _ (xm ww_555)) (fun _ h9 => h9) rfl d_Model_writeData_47 ?_
    refine lv_bipush (v := 9) hx hb d_Model_writeData_50 rfl ?_
    refine lv_isub hx hb d_Model_writeData_52 ?_
    have J3 : ∀ (y4 : Int32) (H : Heap) (locs : List Loc), y4 = (if ((nI kc) - 9) ≤ (pk 7) then ((nI kc) - 9) else (pk 7)) → va_P D vwCl [(h0, .inr (7, [.int tg, .ref a_st, .ref a_ck, .ref a_en, .ref a_au, .ref a_he, .ref a_qu, .ref a_lo, .ref a_ow, .ref a_fl, .ref a_ti, .ref a_gd, .ref a_ak, .ref a_sp, .ref a_se, .ref a_sd, .ref a_rw, .ref a_sz, .ref a_op, .ref a_th, .ref a_me, .ref a_pk, .int (nI kc), .int cm, .int su, .ref a_re, .int (nI kq), .ref a_dr])), (a_me, .inl (cI, 32, .inl me)), (a_pk, .inl (cI, 40, .inl pk))] H → va_D A [(h0, .inr (7, [.int tg, .ref a_st, .ref a_ck, .ref a_en, .ref a_au, .ref a_he, .ref a_qu, .ref a_lo, .ref a_ow, .ref a_fl, .ref a_ti, .ref a_gd, .ref a_ak, .ref a_sp, .ref a_se, .ref a_sd, .ref a_rw, .ref a_sz, .ref a_op, .ref a_th, .ref a_me, .ref a_pk, .int (nI kc), .int cm, .int su, .ref a_re, .int (nI kq), .ref a_dr])), (a_me, .inl (cI, 32, .inl me)), (a_pk, .inl (cI, 40, .inl pk))] → va_S A s.heap H locs → W p l e rm_Model_writeData s m args below meth c H locs 0 0 Q (F0 m 73 ls [.int y4]) := by
      intro y4 H locs hy4 hP hD hS
      replace hq := hq.trans (bnd_eq hy4)
      try dsimp only at hq
      refine lv_topi (fun wq hwq => ?_)
      replace hq := hq.trans (bnd_eq hwq)
      try dsimp only at hq
      refine lv_istore_n hx hb d_Model_writeData_73 rfl hl (by decide) rfl (fun ls hl => ?_)
      replace hl : lv_has ls 4 [(2, .int wq), (1, .int gs), (0, .ref h0)] := hl
      refine lv_iconst (v := 0) hx hb d_Model_writeData_74 rfl ?_
      refine lv_istore_n hx hb d_Model_writeData_75 rfl hl (by decide) rfl (fun ls hl => ?_)
      replace hl : lv_has ls 4 [(3, .int 0), (2, .int wq), (1, .int gs), (0, .ref h0)] := hl
      have LPlp_mwrite : ∀ (nlp_mwrite : Nat) (j : Nat) (me1 : Nat → Int32) (ls : Array Slot) (H : Heap) (locs : List Loc), (j ≤ wq.toNatClampNeg) → wq.toNatClampNeg - j ≤ nlp_mwrite → lv_has ls 4 [(0, .ref h0), (1, .int gs), (2, .int wq), (3, .int (nI j))] → va_P D vwCl [(h0, .inr (7, [.int tg, .ref a_st, .ref a_ck, .ref a_en, .ref a_au, .ref a_he, .ref a_qu, .ref a_lo, .ref a_ow, .ref a_fl, .ref a_ti, .ref a_gd, .ref a_ak, .ref a_sp, .ref a_se, .ref a_sd, .ref a_rw, .ref a_sz, .ref a_op, .ref a_th, .ref a_me, .ref a_pk, .int (nI kc), .int cm, .int su, .ref a_re, .int (nI kq), .ref a_dr])), (a_me, .inl (cI, 32, .inl me1)), (a_pk, .inl (cI, 40, .inl pk))] H → va_D A [(h0, .inr (7, [.int tg, .ref a_st, .ref a_ck, .ref a_en, .ref a_au, .ref a_he, .ref a_qu, .ref a_lo, .ref a_ow, .ref a_fl, .ref a_ti, .ref a_gd, .ref a_ak, .ref a_sp, .ref a_se, .ref a_sd, .ref a_rw, .ref a_sz, .ref a_op, .ref a_th, .ref a_me, .ref a_pk, .int (nI kc), .int cm, .int su, .ref a_re, .int (nI kq), .ref a_dr])), (a_me, .inl (cI, 32, .inl me1)), (a_pk, .inl (cI, 40, .inl pk))] → va_S A s.heap H locs → s_Model_writeData me pk kc su = lp_mwrite pk gs wq nlp_mwrite j me1 → W p l e rm_Model_writeData s m args below meth c H locs 0 0 Q (F0 m 76 ls []) := by
        intro nlp_mwrite
        induction nlp_mwrite with
        | zero =>
          intro j me1 ls H locs hj hmlp_mwrite hl hP hD hS hq
          replace hq : s_Model_writeData me pk kc su = (me1) := hq
          refine lv_iload_n hx hb d_Model_writeData_76 rfl (lv_at hl 3 rfl) ?_
          refine lv_iload_n hx hb d_Model_writeData_77 rfl (lv_at hl 2 rfl) ?_
          refine lv_icmp_ge (tgt := 110) hx hb d_Model_writeData_78 rfl (fun h5 => ?_) (fun h5 => ?_)
          rotate_left
          · exact absurd (xle_w hj h5) (by omega)
          exact hret me1 hq.symm _ _ _ _ hP hD hS d_Model_writeData_110
        | succ nlp_mwrite ihlp_mwrite =>
          intro j me1 ls H locs hj hmlp_mwrite hl hP hD hS hq
          replace hq : s_Model_writeData me pk kc su = (if wq ≤ (nI j) then (me1) else (if gs = 0 then (me1) else (lp_mwrite pk gs wq nlp_mwrite (j + 1) (upd me1 ((s_Model_addressOf pk (nI j)).toNatClampNeg) (pk (9 + j)))))) := hq
          refine lv_iload_n hx hb d_Model_writeData_76 rfl (lv_at hl 3 rfl) ?_
          refine lv_iload_n hx hb d_Model_writeData_77 rfl (lv_at hl 2 rfl) ?_
          refine lv_icmp_ge (tgt := 110) hx hb d_Model_writeData_78 rfl (fun h6 => ?_) (fun h6 => ?_)
          · replace hq := hq.trans (if_pos h6)
            exact hret me1 hq.symm _ _ _ _ hP hD hS d_Model_writeData_110
          replace hq := hq.trans (if_neg h6)
          refine lv_iload_n hx hb d_Model_writeData_81 rfl (lv_at hl 1 rfl) ?_
          refine lv_if_eq (tgt := 110) hx hb d_Model_writeData_82 rfl (fun h7 => ?_) (fun h7 => ?_)
          · replace hq := hq.trans (if_pos h7)
            exact hret me1 hq.symm _ _ _ _ hP hD hS d_Model_writeData_110
          replace hq := hq.trans (if_neg h7)
          have hA9 := hW (goes_su (hgs.trans hy2) h7) j (lt_w7 (hwq.trans hy4) hj h6)
          refine lv_aload_n hx hb d_Model_writeData_85 rfl (lv_at hl 0 rfl) ?_
          refine va_get (D := D) (ci := 7) (v := .ref a_me) (C := R_Model) (T := F_Model) (N := 28) hx hb hts hin_Model hown hK hP 0 rfl rfl 20 (by decide) (hts _ (xm ww_553)) (fun _ h9 => h9) rfl d_Model_writeData_86 ?_
          refine lv_aload_n hx hb d_Model_writeData_89 rfl (lv_at hl 0 rfl) ?_
          refine lv_iload_n hx hb d_Model_writeData_90 rfl (lv_at hl 3 rfl) ?_
          refine xcall_i (wc := [(h0, .inr (7, [.int tg, .ref a_st, .ref a_ck, .ref a_en, .ref a_au, .ref a_he, .ref a_qu, .ref a_lo, .ref a_ow, .ref a_fl, .ref a_ti, .ref a_gd, .ref a_ak, .ref a_sp, .ref a_se, .ref a_sd, .ref a_rw, .ref a_sz, .ref a_op, .ref a_th, .ref a_me, .ref a_pk, .int (nI kc), .int cm, .int su, .ref a_re, .int (nI kq), .ref a_dr])), (a_pk, .inl (cI, 40, .inl pk))]) (wr := [(a_me, .inl (cI, 32, .inl me1))]) (ws1 := fun (u : Unit) => [(h0, .inr (7, [.int tg, .ref a_st, .ref a_ck, .ref a_en, .ref a_au, .ref a_he, .ref a_qu, .ref a_lo, .ref a_ow, .ref a_fl, .ref a_ti, .ref a_gd, .ref a_ak, .ref a_sp, .ref a_se, .ref a_sd, .ref a_rw, .ref a_sz, .ref a_op, .ref a_th, .ref a_me, .ref a_pk, .int (nI kc), .int cm, .int su, .ref a_re, .int (nI kq), .ref a_dr])), (a_me, .inl (cI, 32, .inl me1)), (a_pk, .inl (cI, 40, .inl pk))]) (va_runV (As := [.int (nI j)]) (rest := [.ref a_me]) ⟨hx, hb, hml, hown, hts⟩ (c_Model_addressOf pk (nI j) h0 a_st a_ck a_en a_au a_he a_qu a_lo a_ow a_fl a_ti a_gd a_ak a_sp a_se a_sd a_rw a_sz a_op a_th a_me a_pk a_re a_dr tg kc cm su kq H.size) (xcwV 1 hts ww_701 ww_698 ww_700 ws_Model_addressOf ww_8 (by decide +kernel) rfl rfl ⟨Nat.le_of_ble_eq_true rfl, Nat.le_of_ble_eq_true rfl⟩) (xPreV (ci := 7) (q0 := 0) (q := (R_Model, F_Model, 28)) (hP.sub [0, 2] rfl) (hD.sub [0, 2] (by decide) rfl) hK hN rfl rfl rfl) rfl rfl hl.1 rfl (lv_room (Nat.le_of_ble_eq_true rfl)) d_Model_writeData_91 ⟨Nat.le_of_ble_eq_true rfl, Nat.le_of_ble_eq_true rfl⟩) hP hD hS hA [0, 2] [1] [1, 0, 2] rfl rfl (by decide) (by decide) (by decide) (fun _ => rfl) (fun r8 u8 H locs hw hP hD hS => ?_)
          subst hw
          replace hP : va_P D vwCl [(h0, .inr (7, [.int tg, .ref a_st, .ref a_ck, .ref a_en, .ref a_au, .ref a_he, .ref a_qu, .ref a_lo, .ref a_ow, .ref a_fl, .ref a_ti, .ref a_gd, .ref a_ak, .ref a_sp, .ref a_se, .ref a_sd, .ref a_rw, .ref a_sz, .ref a_op, .ref a_th, .ref a_me, .ref a_pk, .int (nI kc), .int cm, .int su, .ref a_re, .int (nI kq), .ref a_dr])), (a_me, .inl (cI, 32, .inl me1)), (a_pk, .inl (cI, 40, .inl pk))] H := hP
          replace hD : va_D A [(h0, .inr (7, [.int tg, .ref a_st, .ref a_ck, .ref a_en, .ref a_au, .ref a_he, .ref a_qu, .ref a_lo, .ref a_ow, .ref a_fl, .ref a_ti, .ref a_gd, .ref a_ak, .ref a_sp, .ref a_se, .ref a_sd, .ref a_rw, .ref a_sz, .ref a_op, .ref a_th, .ref a_me, .ref a_pk, .int (nI kc), .int cm, .int su, .ref a_re, .int (nI kq), .ref a_dr])), (a_me, .inl (cI, 32, .inl me1)), (a_pk, .inl (cI, 40, .inl pk))] := hD
          refine lv_aload_n hx hb d_Model_writeData_94 rfl (lv_at hl 0 rfl) ?_
          refine va_get (D := D) (ci := 7) (v := .ref a_pk) (C := R_Model) (T := F_Model) (N := 28) hx hb hts hin_Model hown hK hP 0 rfl rfl 21 (by decide) (hts _ (xm ww_554)) (fun _ h9 => h9) rfl d_Model_writeData_95 ?_
          refine lv_bipush (v := 9) hx hb d_Model_writeData_98 rfl ?_
          refine lv_iload_n hx hb d_Model_writeData_100 rfl (lv_at hl 3 rfl) ?_
          refine lv_iadd hx hb d_Model_writeData_101 ?_
          refine xtop (y := nI (9 + j)) (nI_add 9 j) ?_
          refine xiald (k := (9 + j)) hx hb hK hP 2 0 rfl rfl rfl hA9.2 (by decide) d_Model_writeData_102 ?_
          refine xiast (k := ((s_Model_addressOf pk (nI j)).toNatClampNeg)) hx hb hK hP hD hS 1 0 rfl rfl (xnat (ex_nn hA9.1 (by decide))) (ex_lt hA9.1 (by decide)) (by decide) d_Model_writeData_103 (fun H locs hP hD hS => ?_)
          replace hP : va_P D vwCl [(h0, .inr (7, [.int tg, .ref a_st, .ref a_ck, .ref a_en, .ref a_au, .ref a_he, .ref a_qu, .ref a_lo, .ref a_ow, .ref a_fl, .ref a_ti, .ref a_gd, .ref a_ak, .ref a_sp, .ref a_se, .ref a_sd, .ref a_rw, .ref a_sz, .ref a_op, .ref a_th, .ref a_me, .ref a_pk, .int (nI kc), .int cm, .int su, .ref a_re, .int (nI kq), .ref a_dr])), (a_me, .inl (cI, 32, .inl (upd me1 ((s_Model_addressOf pk (nI j)).toNatClampNeg) (pk (9 + j))))), (a_pk, .inl (cI, 40, .inl pk))] H := hP
          replace hD : va_D A [(h0, .inr (7, [.int tg, .ref a_st, .ref a_ck, .ref a_en, .ref a_au, .ref a_he, .ref a_qu, .ref a_lo, .ref a_ow, .ref a_fl, .ref a_ti, .ref a_gd, .ref a_ak, .ref a_sp, .ref a_se, .ref a_sd, .ref a_rw, .ref a_sz, .ref a_op, .ref a_th, .ref a_me, .ref a_pk, .int (nI kc), .int cm, .int su, .ref a_re, .int (nI kq), .ref a_dr])), (a_me, .inl (cI, 32, .inl (upd me1 ((s_Model_addressOf pk (nI j)).toNatClampNeg) (pk (9 + j))))), (a_pk, .inl (cI, 40, .inl pk))] := hD
          refine lv_iinc (k := 3) (v := nI (j + 1)) hx hb d_Model_writeData_104 hl rfl (nI_1 j) (by decide) rfl (fun ls hl => ?_)
          replace hl : lv_has ls 4 [(3, .int (nI (j + 1))), (0, .ref h0), (1, .int gs), (2, .int wq)] := hl
          refine lv_goto (tgt := 76) hx hb d_Model_writeData_107 rfl ?_
          exact ihlp_mwrite (j + 1) (upd me1 ((s_Model_addressOf pk (nI j)).toNatClampNeg) (pk (9 + j))) _ _ _ (xle_w hj h6) (by omega) (lv_sub hl [1, 2, 3, 0] rfl) hP hD hS hq
      exact LPlp_mwrite (wq.toNatClampNeg - 0) 0 me _ _ _ (Nat.zero_le _) (Nat.le_refl _) (lv_sub hl [3, 2, 1, 0] rfl) hP hD hS hq
    have hv : ((if ((nI kc) - 9) ≤ (pk 7) then ((nI kc) - 9) else (pk 7)) : Int32) = (if ((nI kc) - 9) ≤ (pk 7) then ((nI kc) - 9) else (pk 7)) := rfl
    refine lv_icmp_ge (tgt := 66) hx hb d_Model_writeData_53 rfl (fun h9 => ?_) (fun h9 => ?_)
    · replace hv := hv.trans (if_pos h9)
      refine lv_aload_n hx hb d_Model_writeData_66 rfl (lv_at hl 1 rfl) ?_
      refine va_get (D := D) (ci := 7) (v := .int (nI kc)) (C := R_Model) (T := F_Model) (N := 28) hx hb hts hin_Model hown hK hP 0 rfl rfl 22 (by decide) (hts _ (xm ww_555)) (fun _ h9 => h9) rfl d_Model_writeData_67 ?_
      refine lv_bipush (v := 9) hx hb d_Model_writeData_70 rfl ?_
      refine lv_isub hx hb d_Model_writeData_72 ?_
      exact J3 _ _ _ hv.symm hP hD hS
    replace hv := hv.trans (if_neg h9)
    refine lv_aload_n hx hb d_Model_writeData_56 rfl (lv_at hl 1 rfl) ?_
    refine va_get (D := D) (ci := 7) (v := .ref a_pk) (C := R_Model) (T := F_Model) (N := 28) hx hb hts hin_Model hown hK hP 0 rfl rfl 21 (by decide) (hts _ (xm ww_554)) (fun _ h9 => h9) rfl d_Model_writeData_57 ?_
    refine lv_bipush (v := 7) hx hb d_Model_writeData_60 rfl ?_
    refine xiald (k := 7) hx hb hK hP 2 0 rfl rfl rfl (by decide) (by decide) d_Model_writeData_62 ?_
    refine lv_goto (tgt := 73) hx hb d_Model_writeData_63 rfl ?_
    exact J3 _ _ _ hv.symm hP hD hS
  have hv : ((if su = 0 then (1) else (if su < 4 then (0) else (if 6 < su then (0) else (if (s_Model_has pk 16) = 0 then (1) else (0))))) : Int32) = (if su = 0 then (1) else (if su < 4 then (0) else (if 6 < su then (0) else (if (s_Model_has pk 16) = 0 then (1) else (0))))) := rfl
  refine lv_if_eq (tgt := 33) hx hb d_Model_writeData_4 rfl (fun h10 => ?_) (fun h10 => ?_)
  · replace hv := hv.trans (if_pos h10)
    refine lv_iconst (v := 1) hx hb d_Model_writeData_33 rfl ?_
    refine lv_goto (tgt := 38) hx hb d_Model_writeData_34 rfl ?_
    exact J1 _ _ _ hv.symm (Or.inr rfl) hP hD hS
  replace hv := hv.trans (if_neg h10)
  refine lv_aload_n hx hb d_Model_writeData_7 rfl (lv_at hl 0 rfl) ?_
  refine va_get (D := D) (ci := 7) (v := .int su) (C := R_Model) (T := F_Model) (N := 28) hx hb hts hin_Model hown hK hP 0 rfl rfl 24 (by decide) (hts _ (xm ww_557)) (fun _ h9 => h9) rfl d_Model_writeData_8 ?_
  refine lv_iconst (v := 4) hx hb d_Model_writeData_11 rfl ?_
  refine lv_icmp_lt (tgt := 37) hx hb d_Model_writeData_12 rfl (fun h11 => ?_) (fun h11 => ?_)
  · replace hv := hv.trans (if_pos h11)
    refine lv_iconst (v := 0) hx hb d_Model_writeData_37 rfl ?_
    exact J1 _ _ _ hv.symm (Or.inl rfl) hP hD hS
  replace hv := hv.trans (if_neg h11)
  refine lv_aload_n hx hb d_Model_writeData_15 rfl (lv_at hl 0 rfl) ?_
  refine va_get (D := D) (ci := 7) (v := .int su) (C := R_Model) (T := F_Model) (N := 28) hx hb hts hin_Model hown hK hP 0 rfl rfl 24 (by decide) (hts _ (xm ww_557)) (fun _ h9 => h9) rfl d_Model_writeData_16 ?_
  refine lv_bipush (v := 6) hx hb d_Model_writeData_19 rfl ?_
  refine lv_icmp_gt (tgt := 37) hx hb d_Model_writeData_21 rfl (fun h12 => ?_) (fun h12 => ?_)
  · replace hv := hv.trans (if_pos h12)
    refine lv_iconst (v := 0) hx hb d_Model_writeData_37 rfl ?_
    exact J1 _ _ _ hv.symm (Or.inl rfl) hP hD hS
  replace hv := hv.trans (if_neg h12)
  refine lv_aload_n hx hb d_Model_writeData_24 rfl (lv_at hl 0 rfl) ?_
  refine lv_bipush (v := 16) hx hb d_Model_writeData_25 rfl ?_
  refine xcall_i (wc := [(h0, .inr (7, [.int tg, .ref a_st, .ref a_ck, .ref a_en, .ref a_au, .ref a_he, .ref a_qu, .ref a_lo, .ref a_ow, .ref a_fl, .ref a_ti, .ref a_gd, .ref a_ak, .ref a_sp, .ref a_se, .ref a_sd, .ref a_rw, .ref a_sz, .ref a_op, .ref a_th, .ref a_me, .ref a_pk, .int (nI kc), .int cm, .int su, .ref a_re, .int (nI kq), .ref a_dr])), (a_pk, .inl (cI, 40, .inl pk))]) (wr := [(a_me, .inl (cI, 32, .inl me))]) (ws1 := fun (u : Unit) => [(h0, .inr (7, [.int tg, .ref a_st, .ref a_ck, .ref a_en, .ref a_au, .ref a_he, .ref a_qu, .ref a_lo, .ref a_ow, .ref a_fl, .ref a_ti, .ref a_gd, .ref a_ak, .ref a_sp, .ref a_se, .ref a_sd, .ref a_rw, .ref a_sz, .ref a_op, .ref a_th, .ref a_me, .ref a_pk, .int (nI kc), .int cm, .int su, .ref a_re, .int (nI kq), .ref a_dr])), (a_me, .inl (cI, 32, .inl me)), (a_pk, .inl (cI, 40, .inl pk))]) (va_runV (As := [.int 16]) (rest := []) ⟨hx, hb, hml, hown, hts⟩ (c_Model_has pk 16 h0 a_st a_ck a_en a_au a_he a_qu a_lo a_ow a_fl a_ti a_gd a_ak a_sp a_se a_sd a_rw a_sz a_op a_th a_me a_pk a_re a_dr tg kc cm su kq H.size) (xcwV 1 hts ww_685 ww_682 ww_684 ws_Model_has ww_8 (by decide +kernel) rfl rfl ⟨Nat.le_of_ble_eq_true rfl, Nat.le_of_ble_eq_true rfl⟩) (xPreV (ci := 7) (q0 := 0) (q := (R_Model, F_Model, 28)) (hP.sub [0, 2] rfl) (hD.sub [0, 2] (by decide) rfl) hK hN rfl rfl rfl) rfl rfl hl.1 rfl (lv_room (Nat.le_of_ble_eq_true rfl)) d_Model_writeData_27 ⟨Nat.le_of_ble_eq_true rfl, Nat.le_of_ble_eq_true rfl⟩) hP hD hS hA [0, 2] [1] [1, 0, 2] rfl rfl (by decide) (by decide) (by decide) (fun _ => rfl) (fun r13 u13 H locs hw hP hD hS => ?_)
  obtain ⟨hw, hbr_13⟩ := hw
  subst hw
  replace hP : va_P D vwCl [(h0, .inr (7, [.int tg, .ref a_st, .ref a_ck, .ref a_en, .ref a_au, .ref a_he, .ref a_qu, .ref a_lo, .ref a_ow, .ref a_fl, .ref a_ti, .ref a_gd, .ref a_ak, .ref a_sp, .ref a_se, .ref a_sd, .ref a_rw, .ref a_sz, .ref a_op, .ref a_th, .ref a_me, .ref a_pk, .int (nI kc), .int cm, .int su, .ref a_re, .int (nI kq), .ref a_dr])), (a_me, .inl (cI, 32, .inl me)), (a_pk, .inl (cI, 40, .inl pk))] H := hP
  replace hD : va_D A [(h0, .inr (7, [.int tg, .ref a_st, .ref a_ck, .ref a_en, .ref a_au, .ref a_he, .ref a_qu, .ref a_lo, .ref a_ow, .ref a_fl, .ref a_ti, .ref a_gd, .ref a_ak, .ref a_sp, .ref a_se, .ref a_sd, .ref a_rw, .ref a_sz, .ref a_op, .ref a_th, .ref a_me, .ref a_pk, .int (nI kc), .int cm, .int su, .ref a_re, .int (nI kq), .ref a_dr])), (a_me, .inl (cI, 32, .inl me)), (a_pk, .inl (cI, 40, .inl pk))] := hD
  refine lv_if_ne (tgt := 37) hx hb d_Model_writeData_30 rfl (fun h14 => ?_) (fun h14 => ?_)
  · replace hv := hv.trans (if_neg h14)
    refine lv_iconst (v := 0) hx hb d_Model_writeData_37 rfl ?_
    exact J1 _ _ _ hv.symm (Or.inl rfl) hP hD hS
  replace hv := hv.trans (if_pos h14)
  refine lv_iconst (v := 1) hx hb d_Model_writeData_33 rfl ?_
  refine lv_goto (tgt := 38) hx hb d_Model_writeData_34 rfl ?_
  exact J1 _ _ _ hv.symm (Or.inr rfl) hP hD hS

def lp_mchange (pk : Nat → Int32) (mm : Nat) : Nat → Nat → (Nat → Int32) → (Nat → Int32)
  | 0, j, me1 => me1
  | nlp_mchange + 1, j, me1 => if (nI mm) ≤ (nI j) then (me1) else (lp_mchange pk mm nlp_mchange (j + 1) (upd me1 ((pk 6 + nI j).toNatClampNeg) (((pk (9 + j)) &&& (pk (9 + mm + j))) ||| ((me1 ((pk 6 + nI j).toNatClampNeg)) &&& (255 - (pk (9 + mm + j)))))))
def s_Model_changeBits (me : Nat → Int32) (pk : Nat → Int32) (mm : Nat) : (Nat → Int32) := lp_mchange pk mm (mm - 0) 0 me
abbrev rm_Model_changeBits : Room := { frames := 0, cells := 0, slots := 0, locals := 0 }
set_option maxHeartbeats 1000000 in
set_option maxRecDepth 100000 in
theorem c_Model_changeBits {l : Launch} {D : va_G} {cI cZ : ClassId} (me : Nat → Int32) (pk : Nat → Int32) (mm : Nat) (h0 : Nat) (a_st : Nat) (a_ck : Nat) (a_en : Nat) (a_au : Nat) (a_he : Nat) (a_qu : Nat) (a_lo : Nat) (a_ow : Nat) (a_fl : Nat) (a_ti : Nat) (a_gd : Nat) (a_ak : Nat) (a_sp : Nat) (a_se : Nat) (a_sd : Nat) (a_rw : Nat) (a_sz : Nat) (a_op : Nat) (a_th : Nat) (a_me : Nat) (a_pk : Nat) (a_re : Nat) (a_dr : Nat) (tg : Int32) (kc : Nat) (cm : Int32) (su : Int32) (kq : Nat) (hmj : ∀ j : Nat, j < mm → ∃ a : Nat, a < 32 ∧ pk 6 + nI j = nI a) (hm8 : mm ≤ 8) (sz : Nat) : Met l y_Model_changeBits (w_Model_changeBits) rm_Model_changeBits (va_Pc [.ref h0, .int (nI mm)] (xPre xNs D vwCl cI cZ [(h0, .inr (7, [.int tg, .ref a_st, .ref a_ck, .ref a_en, .ref a_au, .ref a_he, .ref a_qu, .ref a_lo, .ref a_ow, .ref a_fl, .ref a_ti, .ref a_gd, .ref a_ak, .ref a_sp, .ref a_se, .ref a_sd, .ref a_rw, .ref a_sz, .ref a_op, .ref a_th, .ref a_me, .ref a_pk, .int (nI kc), .int cm, .int su, .ref a_re, .int (nI kq), .ref a_dr])), (a_me, .inl (cI, 32, .inl me)), (a_pk, .inl (cI, 40, .inl pk))] sz)) (va_Qv (fun (u : (Nat → Int32)) => u = s_Model_changeBits me pk mm) (fun u t9 => xAt D vwCl (va_A [(h0, .inr (7, [.int tg, .ref a_st, .ref a_ck, .ref a_en, .ref a_au, .ref a_he, .ref a_qu, .ref a_lo, .ref a_ow, .ref a_fl, .ref a_ti, .ref a_gd, .ref a_ak, .ref a_sp, .ref a_se, .ref a_sd, .ref a_rw, .ref a_sz, .ref a_op, .ref a_th, .ref a_me, .ref a_pk, .int (nI kc), .int cm, .int su, .ref a_re, .int (nI kq), .ref a_dr])), (a_me, .inl (cI, 32, .inl me)), (a_pk, .inl (cI, 40, .inl pk))] sz) [(h0, .inr (7, [.int tg, .ref a_st, .ref a_ck, .ref a_en, .ref a_au, .ref a_he, .ref a_qu, .ref a_lo, .ref a_ow, .ref a_fl, .ref a_ti, .ref a_gd, .ref a_ak, .ref a_sp, .ref a_se, .ref a_sd, .ref a_rw, .ref a_sz, .ref a_op, .ref a_th, .ref a_me, .ref a_pk, .int (nI kc), .int cm, .int su, .ref a_re, .int (nI kq), .ref a_dr])), (a_me, .inl (cI, 32, .inl u)), (a_pk, .inl (cI, 40, .inl pk))] t9) (va_A [(h0, .inr (7, [.int tg, .ref a_st, .ref a_ck, .ref a_en, .ref a_au, .ref a_he, .ref a_qu, .ref a_lo, .ref a_ow, .ref a_fl, .ref a_ti, .ref a_gd, .ref a_ak, .ref a_sp, .ref a_se, .ref a_sd, .ref a_rw, .ref a_sz, .ref a_op, .ref a_th, .ref a_me, .ref a_pk, .int (nI kc), .int cm, .int su, .ref a_re, .int (nI kq), .ref a_dr])), (a_me, .inl (cI, 32, .inl me)), (a_pk, .inl (cI, 40, .inl pk))] sz)) 0 0 (va_A [(h0, .inr (7, [.int tg, .ref a_st, .ref a_ck, .ref a_en, .ref a_au, .ref a_he, .ref a_qu, .ref a_lo, .ref a_ow, .ref a_fl, .ref a_ti, .ref a_gd, .ref a_ak, .ref a_sp, .ref a_se, .ref a_sd, .ref a_rw, .ref a_sz, .ref a_op, .ref a_th, .ref a_me, .ref a_pk, .int (nI kc), .int cm, .int su, .ref a_re, .int (nI kq), .ref a_dr])), (a_me, .inl (cI, 32, .inl me)), (a_pk, .inl (cI, 40, .inl pk))] sz) := by
  refine xBody_v (S := (Nat → Int32)) (cc := b_Model_changeBits) (maxL := 4) (by decide) rfl (Nat.le_of_ble_eq_true rfl) ?_
  intro p e s m args below meth c A H ls Q hx hb hml hin hts hown hP hD hK hN hS hA hl hret
  replace hl : lv_has ls 4 [(0, .ref h0), (1, .int (nI mm))] := hl
  have hin_Model : ∀ w ∈ u_ws R_Model F_Model 28, w ∈ (w_Model_changeBits) := (fun w h => xm (lay_Model w h))
  have hq : s_Model_changeBits me pk mm = (lp_mchange pk mm (mm - 0) 0 me) := rfl
  refine lv_iconst (v := 0) hx hb d_Model_changeBits_0 rfl ?_
  refine lv_istore_n hx hb d_Model_changeBits_1 rfl hl (by decide) rfl (fun ls hl => ?_)
  replace hl : lv_has ls 4 [(2, .int 0), (0, .ref h0), (1, .int (nI mm))] := hl
  have LPlp_mchange : ∀ (nlp_mchange : Nat) (j : Nat) (me1 : Nat → Int32) (ls : Array Slot) (H : Heap) (locs : List Loc), (j ≤ mm) → mm - j ≤ nlp_mchange → lv_has ls 4 [(0, .ref h0), (1, .int (nI mm)), (2, .int (nI j))] → va_P D vwCl [(h0, .inr (7, [.int tg, .ref a_st, .ref a_ck, .ref a_en, .ref a_au, .ref a_he, .ref a_qu, .ref a_lo, .ref a_ow, .ref a_fl, .ref a_ti, .ref a_gd, .ref a_ak, .ref a_sp, .ref a_se, .ref a_sd, .ref a_rw, .ref a_sz, .ref a_op, .ref a_th, .ref a_me, .ref a_pk, .int (nI kc), .int cm, .int su, .ref a_re, .int (nI kq), .ref a_dr])), (a_me, .inl (cI, 32, .inl me1)), (a_pk, .inl (cI, 40, .inl pk))] H → va_D A [(h0, .inr (7, [.int tg, .ref a_st, .ref a_ck, .ref a_en, .ref a_au, .ref a_he, .ref a_qu, .ref a_lo, .ref a_ow, .ref a_fl, .ref a_ti, .ref a_gd, .ref a_ak, .ref a_sp, .ref a_se, .ref a_sd, .ref a_rw, .ref a_sz, .ref a_op, .ref a_th, .ref a_me, .ref a_pk, .int (nI kc), .int cm, .int su, .ref a_re, .int (nI kq), .ref a_dr])), (a_me, .inl (cI, 32, .inl me1)), (a_pk, .inl (cI, 40, .inl pk))] → va_S A s.heap H locs → s_Model_changeBits me pk mm = lp_mchange pk mm nlp_mchange j me1 → W p l e rm_Model_changeBits s m args below meth c H locs 0 0 Q (F0 m 2 ls []) := by
    intro nlp_mchange
    induction nlp_mchange with
    | zero =>
      intro j me1 ls H locs hj hmlp_mchange hl hP hD hS hq
      replace hq : s_Model_changeBits me pk mm = (me1) := hq
      refine lv_iload_n hx hb d_Model_changeBits_2 rfl (lv_at hl 2 rfl) ?_
      refine lv_iload_n hx hb d_Model_changeBits_3 rfl (lv_at hl 1 rfl) ?_
      refine lv_icmp_ge (tgt := 71) hx hb d_Model_changeBits_4 rfl (fun h1 => ?_) (fun h1 => ?_)
      rotate_left
      · exact absurd (nI_le (by omega) (by omega)) h1
      exact hret me1 hq.symm _ _ _ _ hP hD hS d_Model_changeBits_71
    | succ nlp_mchange ihlp_mchange =>
      intro j me1 ls H locs hj hmlp_mchange hl hP hD hS hq
      replace hq : s_Model_changeBits me pk mm = (if (nI mm) ≤ (nI j) then (me1) else (lp_mchange pk mm nlp_mchange (j + 1) (upd me1 ((pk 6 + nI j).toNatClampNeg) (((pk (9 + j)) &&& (pk (9 + mm + j))) ||| ((me1 ((pk 6 + nI j).toNatClampNeg)) &&& (255 - (pk (9 + mm + j)))))))) := hq
      refine lv_iload_n hx hb d_Model_changeBits_2 rfl (lv_at hl 2 rfl) ?_
      refine lv_iload_n hx hb d_Model_changeBits_3 rfl (lv_at hl 1 rfl) ?_
      refine lv_icmp_ge (tgt := 71) hx hb d_Model_changeBits_4 rfl (fun h2 => ?_) (fun h2 => ?_)
      · replace hq := hq.trans (if_pos h2)
        exact hret me1 hq.symm _ _ _ _ hP hD hS d_Model_changeBits_71
      replace hq := hq.trans (if_neg h2)
      have hjl : j < mm := Nat.lt_of_not_le fun h9 => h2 (nI_le h9 (by omega))
      refine lv_aload_n hx hb d_Model_changeBits_7 rfl (lv_at hl 0 rfl) ?_
      refine va_get (D := D) (ci := 7) (v := .ref a_pk) (C := R_Model) (T := F_Model) (N := 28) hx hb hts hin_Model hown hK hP 0 rfl rfl 21 (by decide) (hts _ (xm ww_554)) (fun _ h9 => h9) rfl d_Model_changeBits_8 ?_
      refine lv_bipush (v := 9) hx hb d_Model_changeBits_11 rfl ?_
      refine lv_iload_n hx hb d_Model_changeBits_13 rfl (lv_at hl 1 rfl) ?_
      refine lv_iadd hx hb d_Model_changeBits_14 ?_
      refine xtop (y := nI (9 + mm)) (nI_add 9 mm) ?_
      refine lv_iload_n hx hb d_Model_changeBits_15 rfl (lv_at hl 2 rfl) ?_
      refine lv_iadd hx hb d_Model_changeBits_16 ?_
      refine xtop (y := nI (9 + mm + j)) (nI_add (9 + mm) j) ?_
      refine xiald (k := (9 + mm + j)) hx hb hK hP 2 0 rfl rfl rfl (by omega) (by decide) d_Model_changeBits_17 ?_
      refine lv_istore_n hx hb d_Model_changeBits_18 rfl hl (by decide) rfl (fun ls hl => ?_)
      replace hl : lv_has ls 4 [(3, .int (pk (9 + mm + j))), (0, .ref h0), (1, .int (nI mm)), (2, .int (nI j))] := hl
      refine lv_aload_n hx hb d_Model_changeBits_19 rfl (lv_at hl 1 rfl) ?_
      refine va_get (D := D) (ci := 7) (v := .ref a_me) (C := R_Model) (T := F_Model) (N := 28) hx hb hts hin_Model hown hK hP 0 rfl rfl 20 (by decide) (hts _ (xm ww_553)) (fun _ h9 => h9) rfl d_Model_changeBits_20 ?_
      refine lv_aload_n hx hb d_Model_changeBits_23 rfl (lv_at hl 1 rfl) ?_
      refine va_get (D := D) (ci := 7) (v := .ref a_pk) (C := R_Model) (T := F_Model) (N := 28) hx hb hts hin_Model hown hK hP 0 rfl rfl 21 (by decide) (hts _ (xm ww_554)) (fun _ h9 => h9) rfl d_Model_changeBits_24 ?_
      refine lv_bipush (v := 6) hx hb d_Model_changeBits_27 rfl ?_
      refine xiald (k := 6) hx hb hK hP 2 0 rfl rfl rfl (by decide) (by decide) d_Model_changeBits_29 ?_
      refine lv_iload_n hx hb d_Model_changeBits_30 rfl (lv_at hl 3 rfl) ?_
      refine lv_iadd hx hb d_Model_changeBits_31 ?_
      refine lv_aload_n hx hb d_Model_changeBits_32 rfl (lv_at hl 1 rfl) ?_
      refine va_get (D := D) (ci := 7) (v := .ref a_pk) (C := R_Model) (T := F_Model) (N := 28) hx hb hts hin_Model hown hK hP 0 rfl rfl 21 (by decide) (hts _ (xm ww_554)) (fun _ h9 => h9) rfl d_Model_changeBits_33 ?_
      refine lv_bipush (v := 9) hx hb d_Model_changeBits_36 rfl ?_
      refine lv_iload_n hx hb d_Model_changeBits_38 rfl (lv_at hl 3 rfl) ?_
      refine lv_iadd hx hb d_Model_changeBits_39 ?_
      refine xtop (y := nI (9 + j)) (nI_add 9 j) ?_
      refine xiald (k := (9 + j)) hx hb hK hP 2 0 rfl rfl rfl (by omega) (by decide) d_Model_changeBits_40 ?_
      refine lv_iload_n hx hb d_Model_changeBits_41 rfl (lv_at hl 0 rfl) ?_
      refine lv_iand hx hb d_Model_changeBits_42 ?_
      refine lv_aload_n hx hb d_Model_changeBits_43 rfl (lv_at hl 1 rfl) ?_
      refine va_get (D := D) (ci := 7) (v := .ref a_me) (C := R_Model) (T := F_Model) (N := 28) hx hb hts hin_Model hown hK hP 0 rfl rfl 20 (by decide) (hts _ (xm ww_553)) (fun _ h9 => h9) rfl d_Model_changeBits_44 ?_
      refine lv_aload_n hx hb d_Model_changeBits_47 rfl (lv_at hl 1 rfl) ?_
      refine va_get (D := D) (ci := 7) (v := .ref a_pk) (C := R_Model) (T := F_Model) (N := 28) hx hb hts hin_Model hown hK hP 0 rfl rfl 21 (by decide) (hts _ (xm ww_554)) (fun _ h9 => h9) rfl d_Model_changeBits_48 ?_
      refine lv_bipush (v := 6) hx hb d_Model_changeBits_51 rfl ?_
      refine xiald (k := 6) hx hb hK hP 2 0 rfl rfl rfl (by decide) (by decide) d_Model_changeBits_53 ?_
      refine lv_iload_n hx hb d_Model_changeBits_54 rfl (lv_at hl 3 rfl) ?_
      refine lv_iadd hx hb d_Model_changeBits_55 ?_
      refine xiald (k := ((pk 6 + nI j).toNatClampNeg)) hx hb hK hP 1 0 rfl rfl (xnat (ex_nn (hmj j hjl) (by decide))) (ex_lt (hmj j hjl) (by decide)) (by decide) d_Model_changeBits_56 ?_
      refine lv_sipush (v := 255) hx hb d_Model_changeBits_57 rfl ?_
      refine lv_iload_n hx hb d_Model_changeBits_60 rfl (lv_at hl 0 rfl) ?_
      refine lv_isub hx hb d_Model_changeBits_61 ?_
      refine lv_iand hx hb d_Model_changeBits_62 ?_
      refine lv_ior hx hb d_Model_changeBits_63 ?_
      refine xiast (k := ((pk 6 + nI j).toNatClampNeg)) hx hb hK hP hD hS 1 0 rfl rfl (xnat (ex_nn (hmj j hjl) (by decide))) (ex_lt (hmj j hjl) (by decide)) (by decide) d_Model_changeBits_64 (fun H locs hP hD hS => ?_)
      replace hP : va_P D vwCl [(h0, .inr (7, [.int tg, .ref a_st, .ref a_ck, .ref a_en, .ref a_au, .ref a_he, .ref a_qu, .ref a_lo, .ref a_ow, .ref a_fl, .ref a_ti, .ref a_gd, .ref a_ak, .ref a_sp, .ref a_se, .ref a_sd, .ref a_rw, .ref a_sz, .ref a_op, .ref a_th, .ref a_me, .ref a_pk, .int (nI kc), .int cm, .int su, .ref a_re, .int (nI kq), .ref a_dr])), (a_me, .inl (cI, 32, .inl (upd me1 ((pk 6 + nI j).toNatClampNeg) (((pk (9 + j)) &&& (pk (9 + mm + j))) ||| ((me1 ((pk 6 + nI j).toNatClampNeg)) &&& (255 - (pk (9 + mm + j)))))))), (a_pk, .inl (cI, 40, .inl pk))] H := hP
      replace hD : va_D A [(h0, .inr (7, [.int tg, .ref a_st, .ref a_ck, .ref a_en, .ref a_au, .ref a_he, .ref a_qu, .ref a_lo, .ref a_ow, .ref a_fl, .ref a_ti, .ref a_gd, .ref a_ak, .ref a_sp, .ref a_se, .ref a_sd, .ref a_rw, .ref a_sz, .ref a_op, .ref a_th, .ref a_me, .ref a_pk, .int (nI kc), .int cm, .int su, .ref a_re, .int (nI kq), .ref a_dr])), (a_me, .inl (cI, 32, .inl (upd me1 ((pk 6 + nI j).toNatClampNeg) (((pk (9 + j)) &&& (pk (9 + mm + j))) ||| ((me1 ((pk 6 + nI j).toNatClampNeg)) &&& (255 - (pk (9 + mm + j)))))))), (a_pk, .inl (cI, 40, .inl pk))] := hD
      refine lv_iinc (k := 3) (v := nI (j + 1)) hx hb d_Model_changeBits_65 hl rfl (nI_1 j) (by decide) rfl (fun ls hl => ?_)
      replace hl : lv_has ls 4 [(2, .int (nI (j + 1))), (3, .int (pk (9 + mm + j))), (0, .ref h0), (1, .int (nI mm))] := hl
      refine lv_goto (tgt := 2) hx hb d_Model_changeBits_68 rfl ?_
      exact ihlp_mchange (j + 1) (upd me1 ((pk 6 + nI j).toNatClampNeg) (((pk (9 + j)) &&& (pk (9 + mm + j))) ||| ((me1 ((pk 6 + nI j).toNatClampNeg)) &&& (255 - (pk (9 + mm + j)))))) _ _ _ (Nat.lt_of_not_le fun h9 => h2 (nI_le h9 (by omega))) (by omega) (lv_sub hl [2, 3, 0] rfl) hP hD hS hq
  exact LPlp_mchange (mm - 0) 0 me _ _ _ (by omega) (Nat.le_refl _) (lv_sub hl [1, 2, 0] rfl) hP hD hS hq

def s_Model_obey_206 (me : Nat → Int32) (pk : Nat → Int32) (kc : Nat) (cm : Int32) (y4 : Int32) (an : Int32) (re1 : Nat → Int32) (kq1 : Nat) : (Nat → Int32) × Int32 × Int32 × (Nat → Int32) × Nat := if (s_Model_has pk 32) = 0 then (if y4 = 0 then (me, cm + 1, s_Model_judge pk kc, re1, kq1) else (bnd (an.toNatClampNeg) (fun mm => bnd (s_Model_changeBits me pk mm) (fun me9 => (me9, cm + 1, s_Model_judge pk kc, re1, kq1))))) else (bnd (s_Model_writeData me pk kc (s_Model_judge pk kc)) (fun me10 => (me10, cm + 1, s_Model_judge pk kc, re1, kq1)))
def lp_obey (me : Nat → Int32) (pk : Nat → Int32) (kc : Nat) (cm : Int32) (y4 : Int32) (an : Int32) : Nat → Nat → (Nat → Int32) → Nat → (Nat → Int32) × Int32 × Int32 × (Nat → Int32) × Nat
  | 0, j, re2, kq2 => bnd2 (s_Model_sayCheck re2 kq2 8) (fun re27 kq27 => bnd2 (s_Model_say re27 kq27 256) (fun re28 kq28 => s_Model_obey_206 me pk kc cm y4 an re28 kq28))
  | nlp_obey + 1, j, re2, kq2 => if an ≤ (nI j) then (bnd2 (s_Model_sayCheck re2 kq2 8) (fun re30 kq30 => bnd2 (s_Model_say re30 kq30 256) (fun re31 kq31 => s_Model_obey_206 me pk kc cm y4 an re31 kq31))) else (bnd2 (s_Model_say re2 kq2 (me ((s_Model_addressOf pk (nI j)).toNatClampNeg))) (fun re33 kq33 => lp_obey me pk kc cm y4 an nlp_obey (j + 1) re33 kq33))
def s_Model_obey (me : Nat → Int32) (pk : Nat → Int32) (kc : Nat) (cm : Int32) (re : Nat → Int32) (kq : Nat) : (Nat → Int32) × Int32 × Int32 × (Nat → Int32) × Nat := bnd (α := Int32) (if (s_Model_has pk 32) = 0 then (if (s_Model_has pk 16) = 0 then (0) else (1)) else (0)) (fun y4 => bnd (α := Int32) (if (s_Model_has pk 32) = 0 then (if (s_Model_judge pk kc) = 0 then (if y4 = 0 then (pk 7) else ((pk 7) / 2)) else (0)) else (0)) (fun y6 => bnd (α := Int32) (y6) (fun an => if (s_Model_has pk 8) = 0 then (s_Model_obey_206 me pk kc cm y4 an re kq) else (bnd2 (s_Model_say re kq 67) (fun re13 kq13 => bnd2 (s_Model_say re13 kq13 1) (fun re14 kq14 => bnd2 (s_Model_say re14 kq14 ((pk 2) &&& 191)) (fun re15 kq15 => bnd2 (s_Model_say re15 kq15 (s_Model_judge pk kc)) (fun re16 kq16 => bnd2 (s_Model_say re16 kq16 (pk 4)) (fun re17 kq17 => bnd2 (s_Model_say re17 kq17 (pk 5)) (fun re18 kq18 => if (s_Model_has pk 32) = 0 then (bnd2 (s_Model_say re18 kq18 an) (fun re23 kq23 => bnd2 (s_Model_sayCheck re23 kq23 0) (fun re24 kq24 => lp_obey me pk kc cm y4 an (an.toNatClampNeg - 0) 0 re24 kq24))) else (bnd2 (s_Model_sayCheck re18 kq18 0) (fun re20 kq20 => bnd2 (s_Model_say re20 kq20 256) (fun re22 kq22 => s_Model_obey_206 me pk kc cm y4 an re22 kq22)))))))))))))
abbrev rm_Model_obey : Room := { frames := 4, cells := 0, slots := 0, locals := 96 }
set_option maxHeartbeats 1000000 in
set_option maxRecDepth 100000 in
theorem c_Model_obey {l : Launch} {D : va_G} {cI cZ : ClassId} (me : Nat → Int32) (pk : Nat → Int32) (kc : Nat) (cm : Int32) (re : Nat → Int32) (kq : Nat) (h0 : Nat) (a_st : Nat) (a_ck : Nat) (a_en : Nat) (a_au : Nat) (a_he : Nat) (a_qu : Nat) (a_lo : Nat) (a_ow : Nat) (a_fl : Nat) (a_ti : Nat) (a_gd : Nat) (a_ak : Nat) (a_sp : Nat) (a_se : Nat) (a_sd : Nat) (a_rw : Nat) (a_sz : Nat) (a_op : Nat) (a_th : Nat) (a_me : Nat) (a_pk : Nat) (a_re : Nat) (a_dr : Nat) (tg : Int32) (su : Int32) (hbf : BF pk) (hkc : kc < 1048576) (hkq0 : kq = 0) (sz : Nat) : Met l y_Model_obey (w_Model_obey) rm_Model_obey (va_Pc [.ref h0] (xPre xNs D vwCl cI cZ [(h0, .inr (7, [.int tg, .ref a_st, .ref a_ck, .ref a_en, .ref a_au, .ref a_he, .ref a_qu, .ref a_lo, .ref a_ow, .ref a_fl, .ref a_ti, .ref a_gd, .ref a_ak, .ref a_sp, .ref a_se, .ref a_sd, .ref a_rw, .ref a_sz, .ref a_op, .ref a_th, .ref a_me, .ref a_pk, .int (nI kc), .int cm, .int su, .ref a_re, .int (nI kq), .ref a_dr])), (a_me, .inl (cI, 32, .inl me)), (a_pk, .inl (cI, 40, .inl pk)), (a_re, .inl (cI, 40, .inl re))] sz)) (va_Qv (fun (u : (Nat → Int32) × Int32 × Int32 × (Nat → Int32) × Nat) => (u.1, u.2.1, u.2.2.1, u.2.2.2.1, u.2.2.2.2) = s_Model_obey me pk kc cm re kq ∧ u.2.2.2.2 ≤ 40) (fun u t9 => xAt D vwCl (va_A [(h0, .inr (7, [.int tg, .ref a_st, .ref a_ck, .ref a_en, .ref a_au, .ref a_he, .ref a_qu, .ref a_lo, .ref a_ow, .ref a_fl, .ref a_ti, .ref a_gd, .ref a_ak, .ref a_sp, .ref a_se, .ref a_sd, .ref a_rw, .ref a_sz, .ref a_op, .ref a_th, .ref a_me, .ref a_pk, .int (nI kc), .int cm, .int su, .ref a_re, .int (nI kq), .ref a_dr])), (a_me, .inl (cI, 32, .inl me)), (a_pk, .inl (cI, 40, .inl pk)), (a_re, .inl (cI, 40, .inl re))] sz) [(h0, .inr (7, [.int tg, .ref a_st, .ref a_ck, .ref a_en, .ref a_au, .ref a_he, .ref a_qu, .ref a_lo, .ref a_ow, .ref a_fl, .ref a_ti, .ref a_gd, .ref a_ak, .ref a_sp, .ref a_se, .ref a_sd, .ref a_rw, .ref a_sz, .ref a_op, .ref a_th, .ref a_me, .ref a_pk, .int (nI kc), .int u.2.1, .int u.2.2.1, .ref a_re, .int (nI u.2.2.2.2), .ref a_dr])), (a_me, .inl (cI, 32, .inl u.1)), (a_pk, .inl (cI, 40, .inl pk)), (a_re, .inl (cI, 40, .inl u.2.2.2.1))] t9) (va_A [(h0, .inr (7, [.int tg, .ref a_st, .ref a_ck, .ref a_en, .ref a_au, .ref a_he, .ref a_qu, .ref a_lo, .ref a_ow, .ref a_fl, .ref a_ti, .ref a_gd, .ref a_ak, .ref a_sp, .ref a_se, .ref a_sd, .ref a_rw, .ref a_sz, .ref a_op, .ref a_th, .ref a_me, .ref a_pk, .int (nI kc), .int cm, .int su, .ref a_re, .int (nI kq), .ref a_dr])), (a_me, .inl (cI, 32, .inl me)), (a_pk, .inl (cI, 40, .inl pk)), (a_re, .inl (cI, 40, .inl re))] sz)) 0 0 (va_A [(h0, .inr (7, [.int tg, .ref a_st, .ref a_ck, .ref a_en, .ref a_au, .ref a_he, .ref a_qu, .ref a_lo, .ref a_ow, .ref a_fl, .ref a_ti, .ref a_gd, .ref a_ak, .ref a_sp, .ref a_se, .ref a_sd, .ref a_rw, .ref a_sz, .ref a_op, .ref a_th, .ref a_me, .ref a_pk, .int (nI kc), .int cm, .int su, .ref a_re, .int (nI kq), .ref a_dr])), (a_me, .inl (cI, 32, .inl me)), (a_pk, .inl (cI, 40, .inl pk)), (a_re, .inl (cI, 40, .inl re))] sz) := by
  refine xBody_v (S := (Nat → Int32) × Int32 × Int32 × (Nat → Int32) × Nat) (cc := b_Model_obey) (maxL := 5) (by decide) rfl (Nat.le_of_ble_eq_true rfl) ?_
  intro p e s m args below meth c A H ls Q hx hb hml hin hts hown hP hD hK hN hS hA hl hret
  replace hl : lv_has ls 5 [(0, .ref h0)] := hl
  have hin_Model : ∀ w ∈ u_ws R_Model F_Model 28, w ∈ (w_Model_obey) := (fun w h => xm (lay_Model w h))
  have hq : s_Model_obey me pk kc cm re kq = (bnd (α := Int32) (if (s_Model_has pk 32) = 0 then (if (s_Model_has pk 16) = 0 then (0) else (1)) else (0)) (fun y4 => bnd (α := Int32) (if (s_Model_has pk 32) = 0 then (if (s_Model_judge pk kc) = 0 then (if y4 = 0 then (pk 7) else ((pk 7) / 2)) else (0)) else (0)) (fun y6 => bnd (α := Int32) (y6) (fun an => if (s_Model_has pk 8) = 0 then (s_Model_obey_206 me pk kc cm y4 an re kq) else (bnd2 (s_Model_say re kq 67) (fun re13 kq13 => bnd2 (s_Model_say re13 kq13 1) (fun re14 kq14 => bnd2 (s_Model_say re14 kq14 ((pk 2) &&& 191)) (fun re15 kq15 => bnd2 (s_Model_say re15 kq15 (s_Model_judge pk kc)) (fun re16 kq16 => bnd2 (s_Model_say re16 kq16 (pk 4)) (fun re17 kq17 => bnd2 (s_Model_say re17 kq17 (pk 5)) (fun re18 kq18 => if (s_Model_has pk 32) = 0 then (bnd2 (s_Model_say re18 kq18 an) (fun re23 kq23 => bnd2 (s_Model_sayCheck re23 kq23 0) (fun re24 kq24 => lp_obey me pk kc cm y4 an (an.toNatClampNeg - 0) 0 re24 kq24))) else (bnd2 (s_Model_sayCheck re18 kq18 0) (fun re20 kq20 => bnd2 (s_Model_say re20 kq20 256) (fun re22 kq22 => s_Model_obey_206 me pk kc cm y4 an re22 kq22)))))))))))))) := rfl
  refine lv_aload_n hx hb d_Model_obey_0 rfl (lv_at hl 0 rfl) ?_
  refine lv_dup hx hb d_Model_obey_1 rfl ?_
  refine va_get (D := D) (ci := 7) (v := .int cm) (C := R_Model) (T := F_Model) (N := 28) hx hb hts hin_Model hown hK hP 0 rfl rfl 23 (by decide) (hts _ (xm ww_556)) (fun _ h9 => h9) rfl d_Model_obey_2 ?_
  refine lv_iconst (v := 1) hx hb d_Model_obey_5 rfl ?_
  refine lv_iadd hx hb d_Model_obey_6 ?_
  refine va_put (D := D) (ci := 7) (v := .int (cm + 1)) (ty := (.int)) (C := R_Model) (T := F_Model) (N := 28) hx hb hts hin_Model t_Model t_Model_ok n_Model hown hK hP hD hS 0 rfl rfl 23 (by decide) (hts _ (xm ww_556)) (fun _ h9 => h9) rfl (by decide +kernel) rfl rfl (Nat.le_of_ble_eq_true rfl) d_Model_obey_7 (fun H locs hP hD hS => ?_)
  replace hP : va_P D vwCl [(h0, .inr (7, [.int tg, .ref a_st, .ref a_ck, .ref a_en, .ref a_au, .ref a_he, .ref a_qu, .ref a_lo, .ref a_ow, .ref a_fl, .ref a_ti, .ref a_gd, .ref a_ak, .ref a_sp, .ref a_se, .ref a_sd, .ref a_rw, .ref a_sz, .ref a_op, .ref a_th, .ref a_me, .ref a_pk, .int (nI kc), .int (cm + 1), .int su, .ref a_re, .int (nI kq), .ref a_dr])), (a_me, .inl (cI, 32, .inl me)), (a_pk, .inl (cI, 40, .inl pk)), (a_re, .inl (cI, 40, .inl re))] H := hP
  replace hD : va_D A [(h0, .inr (7, [.int tg, .ref a_st, .ref a_ck, .ref a_en, .ref a_au, .ref a_he, .ref a_qu, .ref a_lo, .ref a_ow, .ref a_fl, .ref a_ti, .ref a_gd, .ref a_ak, .ref a_sp, .ref a_se, .ref a_sd, .ref a_rw, .ref a_sz, .ref a_op, .ref a_th, .ref a_me, .ref a_pk, .int (nI kc), .int (cm + 1), .int su, .ref a_re, .int (nI kq), .ref a_dr])), (a_me, .inl (cI, 32, .inl me)), (a_pk, .inl (cI, 40, .inl pk)), (a_re, .inl (cI, 40, .inl re))] := hD
  refine lv_aload_n hx hb d_Model_obey_10 rfl (lv_at hl 0 rfl) ?_
  refine lv_aload_n hx hb d_Model_obey_11 rfl (lv_at hl 0 rfl) ?_
  refine xcall_i (wc := [(h0, .inr (7, [.int tg, .ref a_st, .ref a_ck, .ref a_en, .ref a_au, .ref a_he, .ref a_qu, .ref a_lo, .ref a_ow, .ref a_fl, .ref a_ti, .ref a_gd, .ref a_ak, .ref a_sp, .ref a_se, .ref a_sd, .ref a_rw, .ref a_sz, .ref a_op, .ref a_th, .ref a_me, .ref a_pk, .int (nI kc), .int (cm + 1), .int su, .ref a_re, .int (nI kq), .ref a_dr])), (a_pk, .inl (cI, 40, .inl pk))]) (wr := [(a_me, .inl (cI, 32, .inl me)), (a_re, .inl (cI, 40, .inl re))]) (ws1 := fun (u : Unit) => [(h0, .inr (7, [.int tg, .ref a_st, .ref a_ck, .ref a_en, .ref a_au, .ref a_he, .ref a_qu, .ref a_lo, .ref a_ow, .ref a_fl, .ref a_ti, .ref a_gd, .ref a_ak, .ref a_sp, .ref a_se, .ref a_sd, .ref a_rw, .ref a_sz, .ref a_op, .ref a_th, .ref a_me, .ref a_pk, .int (nI kc), .int (cm + 1), .int su, .ref a_re, .int (nI kq), .ref a_dr])), (a_me, .inl (cI, 32, .inl me)), (a_pk, .inl (cI, 40, .inl pk)), (a_re, .inl (cI, 40, .inl re))]) (va_runV (As := []) (rest := [.ref h0]) ⟨hx, hb, hml, hown, hts⟩ (c_Model_judge pk kc h0 a_st a_ck a_en a_au a_he a_qu a_lo a_ow a_fl a_ti a_gd a_ak a_sp a_se a_sd a_rw a_sz a_op a_th a_me a_pk a_re a_dr tg (cm + 1) su kq hbf hkc H.size) (xcwV 0 hts ww_681 ww_678 ww_680 ws_Model_judge ww_8 (by decide +kernel) rfl rfl ⟨Nat.le_of_ble_eq_true rfl, Nat.le_of_ble_eq_true rfl⟩) (xPreV (ci := 7) (q0 := 0) (q := (R_Model, F_Model, 28)) (hP.sub [0, 2] rfl) (hD.sub [0, 2] (by decide) rfl) hK hN rfl rfl rfl) rfl rfl hl.1 rfl (lv_room (Nat.le_of_ble_eq_true rfl)) d_Model_obey_12 ⟨Nat.le_of_ble_eq_true rfl, Nat.le_of_ble_eq_true rfl⟩) hP hD hS hA [0, 2] [1, 3] [2, 0, 3, 1] rfl rfl (by decide) (by decide) (by decide) (fun _ => rfl) (fun r1 u1 H locs hw hP hD hS => ?_)
  refine xtop hw ?_
  replace hP : va_P D vwCl [(h0, .inr (7, [.int tg, .ref a_st, .ref a_ck, .ref a_en, .ref a_au, .ref a_he, .ref a_qu, .ref a_lo, .ref a_ow, .ref a_fl, .ref a_ti, .ref a_gd, .ref a_ak, .ref a_sp, .ref a_se, .ref a_sd, .ref a_rw, .ref a_sz, .ref a_op, .ref a_th, .ref a_me, .ref a_pk, .int (nI kc), .int (cm + 1), .int su, .ref a_re, .int (nI kq), .ref a_dr])), (a_me, .inl (cI, 32, .inl me)), (a_pk, .inl (cI, 40, .inl pk)), (a_re, .inl (cI, 40, .inl re))] H := hP
  replace hD : va_D A [(h0, .inr (7, [.int tg, .ref a_st, .ref a_ck, .ref a_en, .ref a_au, .ref a_he, .ref a_qu, .ref a_lo, .ref a_ow, .ref a_fl, .ref a_ti, .ref a_gd, .ref a_ak, .ref a_sp, .ref a_se, .ref a_sd, .ref a_rw, .ref a_sz, .ref a_op, .ref a_th, .ref a_me, .ref a_pk, .int (nI kc), .int (cm + 1), .int su, .ref a_re, .int (nI kq), .ref a_dr])), (a_me, .inl (cI, 32, .inl me)), (a_pk, .inl (cI, 40, .inl pk)), (a_re, .inl (cI, 40, .inl re))] := hD
  refine va_put (D := D) (ci := 7) (v := .int (s_Model_judge pk kc)) (ty := (.int)) (C := R_Model) (T := F_Model) (N := 28) hx hb hts hin_Model t_Model t_Model_ok n_Model hown hK hP hD hS 0 rfl rfl 24 (by decide) (hts _ (xm ww_557)) (fun _ h9 => h9) rfl (by decide +kernel) rfl rfl (Nat.le_of_ble_eq_true rfl) d_Model_obey_15 (fun H locs hP hD hS => ?_)
  replace hP : va_P D vwCl [(h0, .inr (7, [.int tg, .ref a_st, .ref a_ck, .ref a_en, .ref a_au, .ref a_he, .ref a_qu, .ref a_lo, .ref a_ow, .ref a_fl, .ref a_ti, .ref a_gd, .ref a_ak, .ref a_sp, .ref a_se, .ref a_sd, .ref a_rw, .ref a_sz, .ref a_op, .ref a_th, .ref a_me, .ref a_pk, .int (nI kc), .int (cm + 1), .int (s_Model_judge pk kc), .ref a_re, .int (nI kq), .ref a_dr])), (a_me, .inl (cI, 32, .inl me)), (a_pk, .inl (cI, 40, .inl pk)), (a_re, .inl (cI, 40, .inl re))] H := hP
  replace hD : va_D A [(h0, .inr (7, [.int tg, .ref a_st, .ref a_ck, .ref a_en, .ref a_au, .ref a_he, .ref a_qu, .ref a_lo, .ref a_ow, .ref a_fl, .ref a_ti, .ref a_gd, .ref a_ak, .ref a_sp, .ref a_se, .ref a_sd, .ref a_rw, .ref a_sz, .ref a_op, .ref a_th, .ref a_me, .ref a_pk, .int (nI kc), .int (cm + 1), .int (s_Model_judge pk kc), .ref a_re, .int (nI kq), .ref a_dr])), (a_me, .inl (cI, 32, .inl me)), (a_pk, .inl (cI, 40, .inl pk)), (a_re, .inl (cI, 40, .inl re))] := hD
  refine lv_aload_n hx hb d_Model_obey_18 rfl (lv_at hl 0 rfl) ?_
  refine lv_bipush (v := 32) hx hb d_Model_obey_19 rfl ?_
  refine xcall_i (wc := [(h0, .inr (7, [.int tg, .ref a_st, .ref a_ck, .ref a_en, .ref a_au, .ref a_he, .ref a_qu, .ref a_lo, .ref a_ow, .ref a_fl, .ref a_ti, .ref a_gd, .ref a_ak, .ref a_sp, .ref a_se, .ref a_sd, .ref a_rw, .ref a_sz, .ref a_op, .ref a_th, .ref a_me, .ref a_pk, .int (nI kc), .int (cm + 1), .int (s_Model_judge pk kc), .ref a_re, .int (nI kq), .ref a_dr])), (a_pk, .inl (cI, 40, .inl pk))]) (wr := [(a_me, .inl (cI, 32, .inl me)), (a_re, .inl (cI, 40, .inl re))]) (ws1 := fun (u : Unit) => [(h0, .inr (7, [.int tg, .ref a_st, .ref a_ck, .ref a_en, .ref a_au, .ref a_he, .ref a_qu, .ref a_lo, .ref a_ow, .ref a_fl, .ref a_ti, .ref a_gd, .ref a_ak, .ref a_sp, .ref a_se, .ref a_sd, .ref a_rw, .ref a_sz, .ref a_op, .ref a_th, .ref a_me, .ref a_pk, .int (nI kc), .int (cm + 1), .int (s_Model_judge pk kc), .ref a_re, .int (nI kq), .ref a_dr])), (a_me, .inl (cI, 32, .inl me)), (a_pk, .inl (cI, 40, .inl pk)), (a_re, .inl (cI, 40, .inl re))]) (va_runV (As := [.int 32]) (rest := []) ⟨hx, hb, hml, hown, hts⟩ (c_Model_has pk 32 h0 a_st a_ck a_en a_au a_he a_qu a_lo a_ow a_fl a_ti a_gd a_ak a_sp a_se a_sd a_rw a_sz a_op a_th a_me a_pk a_re a_dr tg kc (cm + 1) (s_Model_judge pk kc) kq H.size) (xcwV 1 hts ww_685 ww_682 ww_684 ws_Model_has ww_8 (by decide +kernel) rfl rfl ⟨Nat.le_of_ble_eq_true rfl, Nat.le_of_ble_eq_true rfl⟩) (xPreV (ci := 7) (q0 := 0) (q := (R_Model, F_Model, 28)) (hP.sub [0, 2] rfl) (hD.sub [0, 2] (by decide) rfl) hK hN rfl rfl rfl) rfl rfl hl.1 rfl (lv_room (Nat.le_of_ble_eq_true rfl)) d_Model_obey_21 ⟨Nat.le_of_ble_eq_true rfl, Nat.le_of_ble_eq_true rfl⟩) hP hD hS hA [0, 2] [1, 3] [2, 0, 3, 1] rfl rfl (by decide) (by decide) (by decide) (fun _ => rfl) (fun r2 u2 H locs hw hP hD hS => ?_)
  obtain ⟨hw, hbr_2⟩ := hw
  subst hw
  replace hP : va_P D vwCl [(h0, .inr (7, [.int tg, .ref a_st, .ref a_ck, .ref a_en, .ref a_au, .ref a_he, .ref a_qu, .ref a_lo, .ref a_ow, .ref a_fl, .ref a_ti, .ref a_gd, .ref a_ak, .ref a_sp, .ref a_se, .ref a_sd, .ref a_rw, .ref a_sz, .ref a_op, .ref a_th, .ref a_me, .ref a_pk, .int (nI kc), .int (cm + 1), .int (s_Model_judge pk kc), .ref a_re, .int (nI kq), .ref a_dr])), (a_me, .inl (cI, 32, .inl me)), (a_pk, .inl (cI, 40, .inl pk)), (a_re, .inl (cI, 40, .inl re))] H := hP
  replace hD : va_D A [(h0, .inr (7, [.int tg, .ref a_st, .ref a_ck, .ref a_en, .ref a_au, .ref a_he, .ref a_qu, .ref a_lo, .ref a_ow, .ref a_fl, .ref a_ti, .ref a_gd, .ref a_ak, .ref a_sp, .ref a_se, .ref a_sd, .ref a_rw, .ref a_sz, .ref a_op, .ref a_th, .ref a_me, .ref a_pk, .int (nI kc), .int (cm + 1), .int (s_Model_judge pk kc), .ref a_re, .int (nI kq), .ref a_dr])), (a_me, .inl (cI, 32, .inl me)), (a_pk, .inl (cI, 40, .inl pk)), (a_re, .inl (cI, 40, .inl re))] := hD
  refine lv_istore_n hx hb d_Model_obey_24 rfl hl (by decide) rfl (fun ls hl => ?_)
  replace hl : lv_has ls 5 [(1, .int (s_Model_has pk 32)), (0, .ref h0)] := hl
  refine lv_iload_n hx hb d_Model_obey_25 rfl (lv_at hl 0 rfl) ?_
  have J3 : ∀ (y4 : Int32) (H : Heap) (locs : List Loc), y4 = (if (s_Model_has pk 32) = 0 then (if (s_Model_has pk 16) = 0 then (0) else (1)) else (0)) → xB y4 → va_P D vwCl [(h0, .inr (7, [.int tg, .ref a_st, .ref a_ck, .ref a_en, .ref a_au, .ref a_he, .ref a_qu, .ref a_lo, .ref a_ow, .ref a_fl, .ref a_ti, .ref a_gd, .ref a_ak, .ref a_sp, .ref a_se, .ref a_sd, .ref a_rw, .ref a_sz, .ref a_op, .ref a_th, .ref a_me, .ref a_pk, .int (nI kc), .int (cm + 1), .int (s_Model_judge pk kc), .ref a_re, .int (nI kq), .ref a_dr])), (a_me, .inl (cI, 32, .inl me)), (a_pk, .inl (cI, 40, .inl pk)), (a_re, .inl (cI, 40, .inl re))] H → va_D A [(h0, .inr (7, [.int tg, .ref a_st, .ref a_ck, .ref a_en, .ref a_au, .ref a_he, .ref a_qu, .ref a_lo, .ref a_ow, .ref a_fl, .ref a_ti, .ref a_gd, .ref a_ak, .ref a_sp, .ref a_se, .ref a_sd, .ref a_rw, .ref a_sz, .ref a_op, .ref a_th, .ref a_me, .ref a_pk, .int (nI kc), .int (cm + 1), .int (s_Model_judge pk kc), .ref a_re, .int (nI kq), .ref a_dr])), (a_me, .inl (cI, 32, .inl me)), (a_pk, .inl (cI, 40, .inl pk)), (a_re, .inl (cI, 40, .inl re))] → va_S A s.heap H locs → W p l e rm_Model_obey s m args below meth c H locs 0 0 Q (F0 m 43 ls [.int y4]) := by
    intro y4 H locs hy4 hby4 hP hD hS
    replace hq := hq.trans (bnd_eq hy4)
    try dsimp only at hq
    refine lv_istore_n hx hb d_Model_obey_43 rfl hl (by decide) rfl (fun ls hl => ?_)
    replace hl : lv_has ls 5 [(2, .int y4), (1, .int (s_Model_has pk 32)), (0, .ref h0)] := hl
    refine lv_iload_n hx hb d_Model_obey_44 rfl (lv_at hl 1 rfl) ?_
    have J5 : ∀ (y6 : Int32) (H : Heap) (locs : List Loc), y6 = (if (s_Model_has pk 32) = 0 then (if (s_Model_judge pk kc) = 0 then (if y4 = 0 then (pk 7) else ((pk 7) / 2)) else (0)) else (0)) → va_P D vwCl [(h0, .inr (7, [.int tg, .ref a_st, .ref a_ck, .ref a_en, .ref a_au, .ref a_he, .ref a_qu, .ref a_lo, .ref a_ow, .ref a_fl, .ref a_ti, .ref a_gd, .ref a_ak, .ref a_sp, .ref a_se, .ref a_sd, .ref a_rw, .ref a_sz, .ref a_op, .ref a_th, .ref a_me, .ref a_pk, .int (nI kc), .int (cm + 1), .int (s_Model_judge pk kc), .ref a_re, .int (nI kq), .ref a_dr])), (a_me, .inl (cI, 32, .inl me)), (a_pk, .inl (cI, 40, .inl pk)), (a_re, .inl (cI, 40, .inl re))] H → va_D A [(h0, .inr (7, [.int tg, .ref a_st, .ref a_ck, .ref a_en, .ref a_au, .ref a_he, .ref a_qu, .ref a_lo, .ref a_ow, .ref a_fl, .ref a_ti, .ref a_gd, .ref a_ak, .ref a_sp, .ref a_se, .ref a_sd, .ref a_rw, .ref a_sz, .ref a_op, .ref a_th, .ref a_me, .ref a_pk, .int (nI kc), .int (cm + 1), .int (s_Model_judge pk kc), .ref a_re, .int (nI kq), .ref a_dr])), (a_me, .inl (cI, 32, .inl me)), (a_pk, .inl (cI, 40, .inl pk)), (a_re, .inl (cI, 40, .inl re))] → va_S A s.heap H locs → W p l e rm_Model_obey s m args below meth c H locs 0 0 Q (F0 m 82 ls [.int y6]) := by
      intro y6 H locs hy6 hP hD hS
      replace hq := hq.trans (bnd_eq hy6)
      try dsimp only at hq
      refine lv_topi (fun an han => ?_)
      replace hq := hq.trans (bnd_eq han)
      try dsimp only at hq
      refine lv_istore_n hx hb d_Model_obey_82 rfl hl (by decide) rfl (fun ls hl => ?_)
      replace hl : lv_has ls 5 [(3, .int an), (2, .int y4), (1, .int (s_Model_has pk 32)), (0, .ref h0)] := hl
      have hJ := jf_an hbf hy4 (han.trans hy6)
      have hJ16 := hJ.2.1
      refine lv_aload_n hx hb d_Model_obey_83 rfl (lv_at hl 3 rfl) ?_
      have Cs_Model_obey_206 : ∀ (re1 : Nat → Int32) (kq1 : Nat) (ls : Array Slot) (H : Heap) (locs : List Loc), (kq1 ≤ 40) → lv_has ls 5 [(3, .int an), (2, .int y4), (1, .int (s_Model_has pk 32)), (0, .ref h0)] → va_P D vwCl [(h0, .inr (7, [.int tg, .ref a_st, .ref a_ck, .ref a_en, .ref a_au, .ref a_he, .ref a_qu, .ref a_lo, .ref a_ow, .ref a_fl, .ref a_ti, .ref a_gd, .ref a_ak, .ref a_sp, .ref a_se, .ref a_sd, .ref a_rw, .ref a_sz, .ref a_op, .ref a_th, .ref a_me, .ref a_pk, .int (nI kc), .int (cm + 1), .int (s_Model_judge pk kc), .ref a_re, .int (nI kq1), .ref a_dr])), (a_me, .inl (cI, 32, .inl me)), (a_pk, .inl (cI, 40, .inl pk)), (a_re, .inl (cI, 40, .inl re1))] H → va_D A [(h0, .inr (7, [.int tg, .ref a_st, .ref a_ck, .ref a_en, .ref a_au, .ref a_he, .ref a_qu, .ref a_lo, .ref a_ow, .ref a_fl, .ref a_ti, .ref a_gd, .ref a_ak, .ref a_sp, .ref a_se, .ref a_sd, .ref a_rw, .ref a_sz, .ref a_op, .ref a_th, .ref a_me, .ref a_pk, .int (nI kc), .int (cm + 1), .int (s_Model_judge pk kc), .ref a_re, .int (nI kq1), .ref a_dr])), (a_me, .inl (cI, 32, .inl me)), (a_pk, .inl (cI, 40, .inl pk)), (a_re, .inl (cI, 40, .inl re1))] → va_S A s.heap H locs → s_Model_obey me pk kc cm re kq = s_Model_obey_206 me pk kc cm y4 an re1 kq1 → W p l e rm_Model_obey s m args below meth c H locs 0 0 Q (F0 m 206 ls []) := by
        intro re1 kq1 ls H locs hk1 hl hP hD hS hq
        replace hq : s_Model_obey me pk kc cm re kq = (if (s_Model_has pk 32) = 0 then (if y4 = 0 then (me, cm + 1, s_Model_judge pk kc, re1, kq1) else (bnd (an.toNatClampNeg) (fun mm => bnd (s_Model_changeBits me pk mm) (fun me9 => (me9, cm + 1, s_Model_judge pk kc, re1, kq1))))) else (bnd (s_Model_writeData me pk kc (s_Model_judge pk kc)) (fun me10 => (me10, cm + 1, s_Model_judge pk kc, re1, kq1)))) := hq
        refine lv_iload_n hx hb d_Model_obey_206 rfl (lv_at hl 2 rfl) ?_
        refine lv_if_eq (tgt := 217) hx hb d_Model_obey_207 rfl (fun h7 => ?_) (fun h7 => ?_)
        · replace hq := hq.trans (if_pos h7)
          refine lv_iload_n hx hb d_Model_obey_217 rfl (lv_at hl 1 rfl) ?_
          refine lv_if_eq (tgt := 226) hx hb d_Model_obey_218 rfl (fun h8 => ?_) (fun h8 => ?_)
          · replace hq := hq.trans (if_pos h8)
            exact hret (me, cm + 1, s_Model_judge pk kc, re1, kq1) ⟨hq.symm, hk1⟩ _ _ _ _ hP hD hS d_Model_obey_226
          replace hq := hq.trans (if_neg h8)
          refine lv_aload_n hx hb d_Model_obey_221 rfl (lv_at hl 3 rfl) ?_
          refine lv_iload_n hx hb d_Model_obey_222 rfl (lv_at hl 0 rfl) ?_
          refine xtopn hJ.1 (fun mm hmm => ?_)
          replace hq := hq.trans (bnd_eq hmm)
          try dsimp only at hq
          refine xcall_v (wc := [(h0, .inr (7, [.int tg, .ref a_st, .ref a_ck, .ref a_en, .ref a_au, .ref a_he, .ref a_qu, .ref a_lo, .ref a_ow, .ref a_fl, .ref a_ti, .ref a_gd, .ref a_ak, .ref a_sp, .ref a_se, .ref a_sd, .ref a_rw, .ref a_sz, .ref a_op, .ref a_th, .ref a_me, .ref a_pk, .int (nI kc), .int (cm + 1), .int (s_Model_judge pk kc), .ref a_re, .int (nI kq1), .ref a_dr])), (a_me, .inl (cI, 32, .inl me)), (a_pk, .inl (cI, 40, .inl pk))]) (wr := [(a_re, .inl (cI, 40, .inl re1))]) (ws1 := fun (u : (Nat → Int32)) => [(h0, .inr (7, [.int tg, .ref a_st, .ref a_ck, .ref a_en, .ref a_au, .ref a_he, .ref a_qu, .ref a_lo, .ref a_ow, .ref a_fl, .ref a_ti, .ref a_gd, .ref a_ak, .ref a_sp, .ref a_se, .ref a_sd, .ref a_rw, .ref a_sz, .ref a_op, .ref a_th, .ref a_me, .ref a_pk, .int (nI kc), .int (cm + 1), .int (s_Model_judge pk kc), .ref a_re, .int (nI kq1), .ref a_dr])), (a_me, .inl (cI, 32, .inl u)), (a_pk, .inl (cI, 40, .inl pk)), (a_re, .inl (cI, 40, .inl re1))]) (va_runV (As := [.int (nI mm)]) (rest := []) ⟨hx, hb, hml, hown, hts⟩ (c_Model_changeBits me pk mm h0 a_st a_ck a_en a_au a_he a_qu a_lo a_ow a_fl a_ti a_gd a_ak a_sp a_se a_sd a_rw a_sz a_op a_th a_me a_pk a_re a_dr tg kc (cm + 1) (s_Model_judge pk kc) kq1 (by rw [hmm]; exact (hJ.2.2.2 h8).2) (by rw [hmm]; exact (hJ.2.2.2 h8).1) H.size) (xcwV 1 hts ww_709 ww_706 ww_708 ws_Model_changeBits ww_8 (by decide +kernel) rfl rfl ⟨Nat.le_of_ble_eq_true rfl, Nat.le_of_ble_eq_true rfl⟩) (xPreV (ci := 7) (q0 := 0) (q := (R_Model, F_Model, 28)) (hP.sub [0, 1, 2] rfl) (hD.sub [0, 1, 2] (by decide) rfl) hK hN rfl rfl rfl) rfl rfl hl.1 rfl (lv_room (Nat.le_of_ble_eq_true rfl)) d_Model_obey_223 ⟨Nat.le_of_ble_eq_true rfl, Nat.le_of_ble_eq_true rfl⟩) hP hD hS hA [0, 1, 2] [3] [1, 2, 3, 0] rfl rfl (by decide) (by decide) (by decide) (fun _ => rfl) (fun u9 H locs hw hP hD hS => ?_)
          obtain ⟨me9, rfl⟩ : ∃ z, z = u9 := ⟨_, rfl⟩
          replace hP : va_P D vwCl [(h0, .inr (7, [.int tg, .ref a_st, .ref a_ck, .ref a_en, .ref a_au, .ref a_he, .ref a_qu, .ref a_lo, .ref a_ow, .ref a_fl, .ref a_ti, .ref a_gd, .ref a_ak, .ref a_sp, .ref a_se, .ref a_sd, .ref a_rw, .ref a_sz, .ref a_op, .ref a_th, .ref a_me, .ref a_pk, .int (nI kc), .int (cm + 1), .int (s_Model_judge pk kc), .ref a_re, .int (nI kq1), .ref a_dr])), (a_me, .inl (cI, 32, .inl me9)), (a_pk, .inl (cI, 40, .inl pk)), (a_re, .inl (cI, 40, .inl re1))] H := hP
          replace hD : va_D A [(h0, .inr (7, [.int tg, .ref a_st, .ref a_ck, .ref a_en, .ref a_au, .ref a_he, .ref a_qu, .ref a_lo, .ref a_ow, .ref a_fl, .ref a_ti, .ref a_gd, .ref a_ak, .ref a_sp, .ref a_se, .ref a_sd, .ref a_rw, .ref a_sz, .ref a_op, .ref a_th, .ref a_me, .ref a_pk, .int (nI kc), .int (cm + 1), .int (s_Model_judge pk kc), .ref a_re, .int (nI kq1), .ref a_dr])), (a_me, .inl (cI, 32, .inl me9)), (a_pk, .inl (cI, 40, .inl pk)), (a_re, .inl (cI, 40, .inl re1))] := hD
          have hw_9 := hw
          replace hq := hq.trans (bnd_eq hw)
          try dsimp only at hq
          exact hret (me9, cm + 1, s_Model_judge pk kc, re1, kq1) ⟨hq.symm, hk1⟩ _ _ _ _ hP hD hS d_Model_obey_226
        replace hq := hq.trans (if_neg h7)
        refine lv_aload_n hx hb d_Model_obey_210 rfl (lv_at hl 3 rfl) ?_
        refine xcall_v (wc := [(h0, .inr (7, [.int tg, .ref a_st, .ref a_ck, .ref a_en, .ref a_au, .ref a_he, .ref a_qu, .ref a_lo, .ref a_ow, .ref a_fl, .ref a_ti, .ref a_gd, .ref a_ak, .ref a_sp, .ref a_se, .ref a_sd, .ref a_rw, .ref a_sz, .ref a_op, .ref a_th, .ref a_me, .ref a_pk, .int (nI kc), .int (cm + 1), .int (s_Model_judge pk kc), .ref a_re, .int (nI kq1), .ref a_dr])), (a_me, .inl (cI, 32, .inl me)), (a_pk, .inl (cI, 40, .inl pk))]) (wr := [(a_re, .inl (cI, 40, .inl re1))]) (ws1 := fun (u : (Nat → Int32)) => [(h0, .inr (7, [.int tg, .ref a_st, .ref a_ck, .ref a_en, .ref a_au, .ref a_he, .ref a_qu, .ref a_lo, .ref a_ow, .ref a_fl, .ref a_ti, .ref a_gd, .ref a_ak, .ref a_sp, .ref a_se, .ref a_sd, .ref a_rw, .ref a_sz, .ref a_op, .ref a_th, .ref a_me, .ref a_pk, .int (nI kc), .int (cm + 1), .int (s_Model_judge pk kc), .ref a_re, .int (nI kq1), .ref a_dr])), (a_me, .inl (cI, 32, .inl u)), (a_pk, .inl (cI, 40, .inl pk)), (a_re, .inl (cI, 40, .inl re1))]) (va_runV (As := []) (rest := []) ⟨hx, hb, hml, hown, hts⟩ (c_Model_writeData me pk kc (s_Model_judge pk kc) h0 a_st a_ck a_en a_au a_he a_qu a_lo a_ow a_fl a_ti a_gd a_ak a_sp a_se a_sd a_rw a_sz a_op a_th a_me a_pk a_re a_dr tg (cm + 1) kq1 (fun hs => jf_w hbf h7 hs) H.size) (xcwV 0 hts ww_705 ww_702 ww_704 ws_Model_writeData ww_8 (by decide +kernel) rfl rfl ⟨Nat.le_of_ble_eq_true rfl, Nat.le_of_ble_eq_true rfl⟩) (xPreV (ci := 7) (q0 := 0) (q := (R_Model, F_Model, 28)) (hP.sub [0, 1, 2] rfl) (hD.sub [0, 1, 2] (by decide) rfl) hK hN rfl rfl rfl) rfl rfl hl.1 rfl (lv_room (Nat.le_of_ble_eq_true rfl)) d_Model_obey_211 ⟨Nat.le_of_ble_eq_true rfl, Nat.le_of_ble_eq_true rfl⟩) hP hD hS hA [0, 1, 2] [3] [1, 2, 3, 0] rfl rfl (by decide) (by decide) (by decide) (fun _ => rfl) (fun u10 H locs hw hP hD hS => ?_)
        obtain ⟨me10, rfl⟩ : ∃ z, z = u10 := ⟨_, rfl⟩
        replace hP : va_P D vwCl [(h0, .inr (7, [.int tg, .ref a_st, .ref a_ck, .ref a_en, .ref a_au, .ref a_he, .ref a_qu, .ref a_lo, .ref a_ow, .ref a_fl, .ref a_ti, .ref a_gd, .ref a_ak, .ref a_sp, .ref a_se, .ref a_sd, .ref a_rw, .ref a_sz, .ref a_op, .ref a_th, .ref a_me, .ref a_pk, .int (nI kc), .int (cm + 1), .int (s_Model_judge pk kc), .ref a_re, .int (nI kq1), .ref a_dr])), (a_me, .inl (cI, 32, .inl me10)), (a_pk, .inl (cI, 40, .inl pk)), (a_re, .inl (cI, 40, .inl re1))] H := hP
        replace hD : va_D A [(h0, .inr (7, [.int tg, .ref a_st, .ref a_ck, .ref a_en, .ref a_au, .ref a_he, .ref a_qu, .ref a_lo, .ref a_ow, .ref a_fl, .ref a_ti, .ref a_gd, .ref a_ak, .ref a_sp, .ref a_se, .ref a_sd, .ref a_rw, .ref a_sz, .ref a_op, .ref a_th, .ref a_me, .ref a_pk, .int (nI kc), .int (cm + 1), .int (s_Model_judge pk kc), .ref a_re, .int (nI kq1), .ref a_dr])), (a_me, .inl (cI, 32, .inl me10)), (a_pk, .inl (cI, 40, .inl pk)), (a_re, .inl (cI, 40, .inl re1))] := hD
        have hw_10 := hw
        replace hq := hq.trans (bnd_eq hw)
        try dsimp only at hq
        refine lv_goto (tgt := 226) hx hb d_Model_obey_214 rfl ?_
        exact hret (me10, cm + 1, s_Model_judge pk kc, re1, kq1) ⟨hq.symm, hk1⟩ _ _ _ _ hP hD hS d_Model_obey_226
      refine lv_bipush (v := 8) hx hb d_Model_obey_84 rfl ?_
      refine xcall_i (wc := [(h0, .inr (7, [.int tg, .ref a_st, .ref a_ck, .ref a_en, .ref a_au, .ref a_he, .ref a_qu, .ref a_lo, .ref a_ow, .ref a_fl, .ref a_ti, .ref a_gd, .ref a_ak, .ref a_sp, .ref a_se, .ref a_sd, .ref a_rw, .ref a_sz, .ref a_op, .ref a_th, .ref a_me, .ref a_pk, .int (nI kc), .int (cm + 1), .int (s_Model_judge pk kc), .ref a_re, .int (nI kq), .ref a_dr])), (a_pk, .inl (cI, 40, .inl pk))]) (wr := [(a_me, .inl (cI, 32, .inl me)), (a_re, .inl (cI, 40, .inl re))]) (ws1 := fun (u : Unit) => [(h0, .inr (7, [.int tg, .ref a_st, .ref a_ck, .ref a_en, .ref a_au, .ref a_he, .ref a_qu, .ref a_lo, .ref a_ow, .ref a_fl, .ref a_ti, .ref a_gd, .ref a_ak, .ref a_sp, .ref a_se, .ref a_sd, .ref a_rw, .ref a_sz, .ref a_op, .ref a_th, .ref a_me, .ref a_pk, .int (nI kc), .int (cm + 1), .int (s_Model_judge pk kc), .ref a_re, .int (nI kq), .ref a_dr])), (a_me, .inl (cI, 32, .inl me)), (a_pk, .inl (cI, 40, .inl pk)), (a_re, .inl (cI, 40, .inl re))]) (va_runV (As := [.int 8]) (rest := []) ⟨hx, hb, hml, hown, hts⟩ (c_Model_has pk 8 h0 a_st a_ck a_en a_au a_he a_qu a_lo a_ow a_fl a_ti a_gd a_ak a_sp a_se a_sd a_rw a_sz a_op a_th a_me a_pk a_re a_dr tg kc (cm + 1) (s_Model_judge pk kc) kq H.size) (xcwV 1 hts ww_685 ww_682 ww_684 ws_Model_has ww_8 (by decide +kernel) rfl rfl ⟨Nat.le_of_ble_eq_true rfl, Nat.le_of_ble_eq_true rfl⟩) (xPreV (ci := 7) (q0 := 0) (q := (R_Model, F_Model, 28)) (hP.sub [0, 2] rfl) (hD.sub [0, 2] (by decide) rfl) hK hN rfl rfl rfl) rfl rfl hl.1 rfl (lv_room (Nat.le_of_ble_eq_true rfl)) d_Model_obey_86 ⟨Nat.le_of_ble_eq_true rfl, Nat.le_of_ble_eq_true rfl⟩) hP hD hS hA [0, 2] [1, 3] [2, 0, 3, 1] rfl rfl (by decide) (by decide) (by decide) (fun _ => rfl) (fun r11 u11 H locs hw hP hD hS => ?_)
      obtain ⟨hw, hbr_11⟩ := hw
      subst hw
      replace hP : va_P D vwCl [(h0, .inr (7, [.int tg, .ref a_st, .ref a_ck, .ref a_en, .ref a_au, .ref a_he, .ref a_qu, .ref a_lo, .ref a_ow, .ref a_fl, .ref a_ti, .ref a_gd, .ref a_ak, .ref a_sp, .ref a_se, .ref a_sd, .ref a_rw, .ref a_sz, .ref a_op, .ref a_th, .ref a_me, .ref a_pk, .int (nI kc), .int (cm + 1), .int (s_Model_judge pk kc), .ref a_re, .int (nI kq), .ref a_dr])), (a_me, .inl (cI, 32, .inl me)), (a_pk, .inl (cI, 40, .inl pk)), (a_re, .inl (cI, 40, .inl re))] H := hP
      replace hD : va_D A [(h0, .inr (7, [.int tg, .ref a_st, .ref a_ck, .ref a_en, .ref a_au, .ref a_he, .ref a_qu, .ref a_lo, .ref a_ow, .ref a_fl, .ref a_ti, .ref a_gd, .ref a_ak, .ref a_sp, .ref a_se, .ref a_sd, .ref a_rw, .ref a_sz, .ref a_op, .ref a_th, .ref a_me, .ref a_pk, .int (nI kc), .int (cm + 1), .int (s_Model_judge pk kc), .ref a_re, .int (nI kq), .ref a_dr])), (a_me, .inl (cI, 32, .inl me)), (a_pk, .inl (cI, 40, .inl pk)), (a_re, .inl (cI, 40, .inl re))] := hD
      refine lv_if_eq (tgt := 206) hx hb d_Model_obey_89 rfl (fun h12 => ?_) (fun h12 => ?_)
      · replace hq := hq.trans (if_pos h12)
        exact Cs_Model_obey_206 re kq _ _ _ (by omega) (lv_sub hl [0, 1, 2, 3] rfl) hP hD hS hq
      replace hq := hq.trans (if_neg h12)
      refine lv_aload_n hx hb d_Model_obey_92 rfl (lv_at hl 3 rfl) ?_
      refine lv_bipush (v := 67) hx hb d_Model_obey_93 rfl ?_
      refine xcall_v (wc := [(h0, .inr (7, [.int tg, .ref a_st, .ref a_ck, .ref a_en, .ref a_au, .ref a_he, .ref a_qu, .ref a_lo, .ref a_ow, .ref a_fl, .ref a_ti, .ref a_gd, .ref a_ak, .ref a_sp, .ref a_se, .ref a_sd, .ref a_rw, .ref a_sz, .ref a_op, .ref a_th, .ref a_me, .ref a_pk, .int (nI kc), .int (cm + 1), .int (s_Model_judge pk kc), .ref a_re, .int (nI kq), .ref a_dr])), (a_re, .inl (cI, 40, .inl re))]) (wr := [(a_me, .inl (cI, 32, .inl me)), (a_pk, .inl (cI, 40, .inl pk))]) (ws1 := fun (u : (Nat → Int32) × Nat) => [(h0, .inr (7, [.int tg, .ref a_st, .ref a_ck, .ref a_en, .ref a_au, .ref a_he, .ref a_qu, .ref a_lo, .ref a_ow, .ref a_fl, .ref a_ti, .ref a_gd, .ref a_ak, .ref a_sp, .ref a_se, .ref a_sd, .ref a_rw, .ref a_sz, .ref a_op, .ref a_th, .ref a_me, .ref a_pk, .int (nI kc), .int (cm + 1), .int (s_Model_judge pk kc), .ref a_re, .int (nI u.2), .ref a_dr])), (a_me, .inl (cI, 32, .inl me)), (a_pk, .inl (cI, 40, .inl pk)), (a_re, .inl (cI, 40, .inl u.1))]) (va_runV (As := [.int 67]) (rest := []) ⟨hx, hb, hml, hown, hts⟩ (c_Model_say re kq 67 h0 a_st a_ck a_en a_au a_he a_qu a_lo a_ow a_fl a_ti a_gd a_ak a_sp a_se a_sd a_rw a_sz a_op a_th a_me a_pk a_re a_dr tg kc (cm + 1) (s_Model_judge pk kc) (by omega) H.size) (xcwV 1 hts ww_693 ww_690 ww_692 ws_Model_say ww_8 (by decide +kernel) rfl rfl ⟨Nat.le_of_ble_eq_true rfl, Nat.le_of_ble_eq_true rfl⟩) (xPreV (ci := 7) (q0 := 0) (q := (R_Model, F_Model, 28)) (hP.sub [0, 3] rfl) (hD.sub [0, 3] (by decide) rfl) hK hN rfl rfl rfl) rfl rfl hl.1 rfl (lv_room (Nat.le_of_ble_eq_true rfl)) d_Model_obey_95 ⟨Nat.le_of_ble_eq_true rfl, Nat.le_of_ble_eq_true rfl⟩) hP hD hS hA [0, 3] [1, 2] [2, 0, 1, 3] rfl rfl (by decide) (by decide) (by decide) (fun _ => rfl) (fun u13 H locs hw hP hD hS => ?_)
      obtain ⟨re13, kq13⟩ := u13
      obtain ⟨hw, hkq_13⟩ := hw
      replace hP : va_P D vwCl [(h0, .inr (7, [.int tg, .ref a_st, .ref a_ck, .ref a_en, .ref a_au, .ref a_he, .ref a_qu, .ref a_lo, .ref a_ow, .ref a_fl, .ref a_ti, .ref a_gd, .ref a_ak, .ref a_sp, .ref a_se, .ref a_sd, .ref a_rw, .ref a_sz, .ref a_op, .ref a_th, .ref a_me, .ref a_pk, .int (nI kc), .int (cm + 1), .int (s_Model_judge pk kc), .ref a_re, .int (nI kq13), .ref a_dr])), (a_me, .inl (cI, 32, .inl me)), (a_pk, .inl (cI, 40, .inl pk)), (a_re, .inl (cI, 40, .inl re13))] H := hP
      replace hD : va_D A [(h0, .inr (7, [.int tg, .ref a_st, .ref a_ck, .ref a_en, .ref a_au, .ref a_he, .ref a_qu, .ref a_lo, .ref a_ow, .ref a_fl, .ref a_ti, .ref a_gd, .ref a_ak, .ref a_sp, .ref a_se, .ref a_sd, .ref a_rw, .ref a_sz, .ref a_op, .ref a_th, .ref a_me, .ref a_pk, .int (nI kc), .int (cm + 1), .int (s_Model_judge pk kc), .ref a_re, .int (nI kq13), .ref a_dr])), (a_me, .inl (cI, 32, .inl me)), (a_pk, .inl (cI, 40, .inl pk)), (a_re, .inl (cI, 40, .inl re13))] := hD
      have hw_13 := hw
      replace hq := hq.trans (bnd2_eq hw)
      try dsimp only at hq
      refine lv_aload_n hx hb d_Model_obey_98 rfl (lv_at hl 3 rfl) ?_
      refine lv_iconst (v := 1) hx hb d_Model_obey_99 rfl ?_
      refine xcall_v (wc := [(h0, .inr (7, [.int tg, .ref a_st, .ref a_ck, .ref a_en, .ref a_au, .ref a_he, .ref a_qu, .ref a_lo, .ref a_ow, .ref a_fl, .ref a_ti, .ref a_gd, .ref a_ak, .ref a_sp, .ref a_se, .ref a_sd, .ref a_rw, .ref a_sz, .ref a_op, .ref a_th, .ref a_me, .ref a_pk, .int (nI kc), .int (cm + 1), .int (s_Model_judge pk kc), .ref a_re, .int (nI kq13), .ref a_dr])), (a_re, .inl (cI, 40, .inl re13))]) (wr := [(a_me, .inl (cI, 32, .inl me)), (a_pk, .inl (cI, 40, .inl pk))]) (ws1 := fun (u : (Nat → Int32) × Nat) => [(h0, .inr (7, [.int tg, .ref a_st, .ref a_ck, .ref a_en, .ref a_au, .ref a_he, .ref a_qu, .ref a_lo, .ref a_ow, .ref a_fl, .ref a_ti, .ref a_gd, .ref a_ak, .ref a_sp, .ref a_se, .ref a_sd, .ref a_rw, .ref a_sz, .ref a_op, .ref a_th, .ref a_me, .ref a_pk, .int (nI kc), .int (cm + 1), .int (s_Model_judge pk kc), .ref a_re, .int (nI u.2), .ref a_dr])), (a_me, .inl (cI, 32, .inl me)), (a_pk, .inl (cI, 40, .inl pk)), (a_re, .inl (cI, 40, .inl u.1))]) (va_runV (As := [.int 1]) (rest := []) ⟨hx, hb, hml, hown, hts⟩ (c_Model_say re13 kq13 1 h0 a_st a_ck a_en a_au a_he a_qu a_lo a_ow a_fl a_ti a_gd a_ak a_sp a_se a_sd a_rw a_sz a_op a_th a_me a_pk a_re a_dr tg kc (cm + 1) (s_Model_judge pk kc) (by omega) H.size) (xcwV 1 hts ww_693 ww_690 ww_692 ws_Model_say ww_8 (by decide +kernel) rfl rfl ⟨Nat.le_of_ble_eq_true rfl, Nat.le_of_ble_eq_true rfl⟩) (xPreV (ci := 7) (q0 := 0) (q := (R_Model, F_Model, 28)) (hP.sub [0, 3] rfl) (hD.sub [0, 3] (by decide) rfl) hK hN rfl rfl rfl) rfl rfl hl.1 rfl (lv_room (Nat.le_of_ble_eq_true rfl)) d_Model_obey_100 ⟨Nat.le_of_ble_eq_true rfl, Nat.le_of_ble_eq_true rfl⟩) hP hD hS hA [0, 3] [1, 2] [2, 0, 1, 3] rfl rfl (by decide) (by decide) (by decide) (fun _ => rfl) (fun u14 H locs hw hP hD hS => ?_)
      obtain ⟨re14, kq14⟩ := u14
      obtain ⟨hw, hkq_14⟩ := hw
      replace hP : va_P D vwCl [(h0, .inr (7, [.int tg, .ref a_st, .ref a_ck, .ref a_en, .ref a_au, .ref a_he, .ref a_qu, .ref a_lo, .ref a_ow, .ref a_fl, .ref a_ti, .ref a_gd, .ref a_ak, .ref a_sp, .ref a_se, .ref a_sd, .ref a_rw, .ref a_sz, .ref a_op, .ref a_th, .ref a_me, .ref a_pk, .int (nI kc), .int (cm + 1), .int (s_Model_judge pk kc), .ref a_re, .int (nI kq14), .ref a_dr])), (a_me, .inl (cI, 32, .inl me)), (a_pk, .inl (cI, 40, .inl pk)), (a_re, .inl (cI, 40, .inl re14))] H := hP
      replace hD : va_D A [(h0, .inr (7, [.int tg, .ref a_st, .ref a_ck, .ref a_en, .ref a_au, .ref a_he, .ref a_qu, .ref a_lo, .ref a_ow, .ref a_fl, .ref a_ti, .ref a_gd, .ref a_ak, .ref a_sp, .ref a_se, .ref a_sd, .ref a_rw, .ref a_sz, .ref a_op, .ref a_th, .ref a_me, .ref a_pk, .int (nI kc), .int (cm + 1), .int (s_Model_judge pk kc), .ref a_re, .int (nI kq14), .ref a_dr])), (a_me, .inl (cI, 32, .inl me)), (a_pk, .inl (cI, 40, .inl pk)), (a_re, .inl (cI, 40, .inl re14))] := hD
      have hw_14 := hw
      replace hq := hq.trans (bnd2_eq hw)
      try dsimp only at hq
      refine lv_aload_n hx hb d_Model_obey_103 rfl (lv_at hl 3 rfl) ?_
      refine lv_aload_n hx hb d_Model_obey_104 rfl (lv_at hl 3 rfl) ?_
      refine va_get (D := D) (ci := 7) (v := .ref a_pk) (C := R_Model) (T := F_Model) (N := 28) hx hb hts hin_Model hown hK hP 0 rfl rfl 21 (by decide) (hts _ (xm ww_554)) (fun _ h9 => h9) rfl d_Model_obey_105 ?_
      refine lv_iconst (v := 2) hx hb d_Model_obey_108 rfl ?_
      refine xiald (k := 2) hx hb hK hP 2 0 rfl rfl rfl (by decide) (by decide) d_Model_obey_109 ?_
      refine lv_sipush (v := 191) hx hb d_Model_obey_110 rfl ?_
      refine lv_iand hx hb d_Model_obey_113 ?_
      refine xcall_v (wc := [(h0, .inr (7, [.int tg, .ref a_st, .ref a_ck, .ref a_en, .ref a_au, .ref a_he, .ref a_qu, .ref a_lo, .ref a_ow, .ref a_fl, .ref a_ti, .ref a_gd, .ref a_ak, .ref a_sp, .ref a_se, .ref a_sd, .ref a_rw, .ref a_sz, .ref a_op, .ref a_th, .ref a_me, .ref a_pk, .int (nI kc), .int (cm + 1), .int (s_Model_judge pk kc), .ref a_re, .int (nI kq14), .ref a_dr])), (a_re, .inl (cI, 40, .inl re14))]) (wr := [(a_me, .inl (cI, 32, .inl me)), (a_pk, .inl (cI, 40, .inl pk))]) (ws1 := fun (u : (Nat → Int32) × Nat) => [(h0, .inr (7, [.int tg, .ref a_st, .ref a_ck, .ref a_en, .ref a_au, .ref a_he, .ref a_qu, .ref a_lo, .ref a_ow, .ref a_fl, .ref a_ti, .ref a_gd, .ref a_ak, .ref a_sp, .ref a_se, .ref a_sd, .ref a_rw, .ref a_sz, .ref a_op, .ref a_th, .ref a_me, .ref a_pk, .int (nI kc), .int (cm + 1), .int (s_Model_judge pk kc), .ref a_re, .int (nI u.2), .ref a_dr])), (a_me, .inl (cI, 32, .inl me)), (a_pk, .inl (cI, 40, .inl pk)), (a_re, .inl (cI, 40, .inl u.1))]) (va_runV (As := [.int ((pk 2) &&& 191)]) (rest := []) ⟨hx, hb, hml, hown, hts⟩ (c_Model_say re14 kq14 ((pk 2) &&& 191) h0 a_st a_ck a_en a_au a_he a_qu a_lo a_ow a_fl a_ti a_gd a_ak a_sp a_se a_sd a_rw a_sz a_op a_th a_me a_pk a_re a_dr tg kc (cm + 1) (s_Model_judge pk kc) (by omega) H.size) (xcwV 1 hts ww_693 ww_690 ww_692 ws_Model_say ww_8 (by decide +kernel) rfl rfl ⟨Nat.le_of_ble_eq_true rfl, Nat.le_of_ble_eq_true rfl⟩) (xPreV (ci := 7) (q0 := 0) (q := (R_Model, F_Model, 28)) (hP.sub [0, 3] rfl) (hD.sub [0, 3] (by decide) rfl) hK hN rfl rfl rfl) rfl rfl hl.1 rfl (lv_room (Nat.le_of_ble_eq_true rfl)) d_Model_obey_114 ⟨Nat.le_of_ble_eq_true rfl, Nat.le_of_ble_eq_true rfl⟩) hP hD hS hA [0, 3] [1, 2] [2, 0, 1, 3] rfl rfl (by decide) (by decide) (by decide) (fun _ => rfl) (fun u15 H locs hw hP hD hS => ?_)
      obtain ⟨re15, kq15⟩ := u15
      obtain ⟨hw, hkq_15⟩ := hw
      replace hP : va_P D vwCl [(h0, .inr (7, [.int tg, .ref a_st, .ref a_ck, .ref a_en, .ref a_au, .ref a_he, .ref a_qu, .ref a_lo, .ref a_ow, .ref a_fl, .ref a_ti, .ref a_gd, .ref a_ak, .ref a_sp, .ref a_se, .ref a_sd, .ref a_rw, .ref a_sz, .ref a_op, .ref a_th, .ref a_me, .ref a_pk, .int (nI kc), .int (cm + 1), .int (s_Model_judge pk kc), .ref a_re, .int (nI kq15), .ref a_dr])), (a_me, .inl (cI, 32, .inl me)), (a_pk, .inl (cI, 40, .inl pk)), (a_re, .inl (cI, 40, .inl re15))] H := hP
      replace hD : va_D A [(h0, .inr (7, [.int tg, .ref a_st, .ref a_ck, .ref a_en, .ref a_au, .ref a_he, .ref a_qu, .ref a_lo, .ref a_ow, .ref a_fl, .ref a_ti, .ref a_gd, .ref a_ak, .ref a_sp, .ref a_se, .ref a_sd, .ref a_rw, .ref a_sz, .ref a_op, .ref a_th, .ref a_me, .ref a_pk, .int (nI kc), .int (cm + 1), .int (s_Model_judge pk kc), .ref a_re, .int (nI kq15), .ref a_dr])), (a_me, .inl (cI, 32, .inl me)), (a_pk, .inl (cI, 40, .inl pk)), (a_re, .inl (cI, 40, .inl re15))] := hD
      have hw_15 := hw
      replace hq := hq.trans (bnd2_eq hw)
      try dsimp only at hq
      refine lv_aload_n hx hb d_Model_obey_117 rfl (lv_at hl 3 rfl) ?_
      refine lv_aload_n hx hb d_Model_obey_118 rfl (lv_at hl 3 rfl) ?_
      refine va_get (D := D) (ci := 7) (v := .int (s_Model_judge pk kc)) (C := R_Model) (T := F_Model) (N := 28) hx hb hts hin_Model hown hK hP 0 rfl rfl 24 (by decide) (hts _ (xm ww_557)) (fun _ h9 => h9) rfl d_Model_obey_119 ?_
      refine xcall_v (wc := [(h0, .inr (7, [.int tg, .ref a_st, .ref a_ck, .ref a_en, .ref a_au, .ref a_he, .ref a_qu, .ref a_lo, .ref a_ow, .ref a_fl, .ref a_ti, .ref a_gd, .ref a_ak, .ref a_sp, .ref a_se, .ref a_sd, .ref a_rw, .ref a_sz, .ref a_op, .ref a_th, .ref a_me, .ref a_pk, .int (nI kc), .int (cm + 1), .int (s_Model_judge pk kc), .ref a_re, .int (nI kq15), .ref a_dr])), (a_re, .inl (cI, 40, .inl re15))]) (wr := [(a_me, .inl (cI, 32, .inl me)), (a_pk, .inl (cI, 40, .inl pk))]) (ws1 := fun (u : (Nat → Int32) × Nat) => [(h0, .inr (7, [.int tg, .ref a_st, .ref a_ck, .ref a_en, .ref a_au, .ref a_he, .ref a_qu, .ref a_lo, .ref a_ow, .ref a_fl, .ref a_ti, .ref a_gd, .ref a_ak, .ref a_sp, .ref a_se, .ref a_sd, .ref a_rw, .ref a_sz, .ref a_op, .ref a_th, .ref a_me, .ref a_pk, .int (nI kc), .int (cm + 1), .int (s_Model_judge pk kc), .ref a_re, .int (nI u.2), .ref a_dr])), (a_me, .inl (cI, 32, .inl me)), (a_pk, .inl (cI, 40, .inl pk)), (a_re, .inl (cI, 40, .inl u.1))]) (va_runV (As := [.int (s_Model_judge pk kc)]) (rest := []) ⟨hx, hb, hml, hown, hts⟩ (c_Model_say re15 kq15 (s_Model_judge pk kc) h0 a_st a_ck a_en a_au a_he a_qu a_lo a_ow a_fl a_ti a_gd a_ak a_sp a_se a_sd a_rw a_sz a_op a_th a_me a_pk a_re a_dr tg kc (cm + 1) (s_Model_judge pk kc) (by omega) H.size) (xcwV 1 hts ww_693 ww_690 ww_692 ws_Model_say ww_8 (by decide +kernel) rfl rfl ⟨Nat.le_of_ble_eq_true rfl, Nat.le_of_ble_eq_true rfl⟩) (xPreV (ci := 7) (q0 := 0) (q := (R_Model, F_Model, 28)) (hP.sub [0, 3] rfl) (hD.sub [0, 3] (by decide) rfl) hK hN rfl rfl rfl) rfl rfl hl.1 rfl (lv_room (Nat.le_of_ble_eq_true rfl)) d_Model_obey_122 ⟨Nat.le_of_ble_eq_true rfl, Nat.le_of_ble_eq_true rfl⟩) hP hD hS hA [0, 3] [1, 2] [2, 0, 1, 3] rfl rfl (by decide) (by decide) (by decide) (fun _ => rfl) (fun u16 H locs hw hP hD hS => ?_)
      obtain ⟨re16, kq16⟩ := u16
      obtain ⟨hw, hkq_16⟩ := hw
      replace hP : va_P D vwCl [(h0, .inr (7, [.int tg, .ref a_st, .ref a_ck, .ref a_en, .ref a_au, .ref a_he, .ref a_qu, .ref a_lo, .ref a_ow, .ref a_fl, .ref a_ti, .ref a_gd, .ref a_ak, .ref a_sp, .ref a_se, .ref a_sd, .ref a_rw, .ref a_sz, .ref a_op, .ref a_th, .ref a_me, .ref a_pk, .int (nI kc), .int (cm + 1), .int (s_Model_judge pk kc), .ref a_re, .int (nI kq16), .ref a_dr])), (a_me, .inl (cI, 32, .inl me)), (a_pk, .inl (cI, 40, .inl pk)), (a_re, .inl (cI, 40, .inl re16))] H := hP
      replace hD : va_D A [(h0, .inr (7, [.int tg, .ref a_st, .ref a_ck, .ref a_en, .ref a_au, .ref a_he, .ref a_qu, .ref a_lo, .ref a_ow, .ref a_fl, .ref a_ti, .ref a_gd, .ref a_ak, .ref a_sp, .ref a_se, .ref a_sd, .ref a_rw, .ref a_sz, .ref a_op, .ref a_th, .ref a_me, .ref a_pk, .int (nI kc), .int (cm + 1), .int (s_Model_judge pk kc), .ref a_re, .int (nI kq16), .ref a_dr])), (a_me, .inl (cI, 32, .inl me)), (a_pk, .inl (cI, 40, .inl pk)), (a_re, .inl (cI, 40, .inl re16))] := hD
      have hw_16 := hw
      replace hq := hq.trans (bnd2_eq hw)
      try dsimp only at hq
      refine lv_aload_n hx hb d_Model_obey_125 rfl (lv_at hl 3 rfl) ?_
      refine lv_aload_n hx hb d_Model_obey_126 rfl (lv_at hl 3 rfl) ?_
      refine va_get (D := D) (ci := 7) (v := .ref a_pk) (C := R_Model) (T := F_Model) (N := 28) hx hb hts hin_Model hown hK hP 0 rfl rfl 21 (by decide) (hts _ (xm ww_554)) (fun _ h9 => h9) rfl d_Model_obey_127 ?_
      refine lv_iconst (v := 4) hx hb d_Model_obey_130 rfl ?_
      refine xiald (k := 4) hx hb hK hP 2 0 rfl rfl rfl (by decide) (by decide) d_Model_obey_131 ?_
      refine xcall_v (wc := [(h0, .inr (7, [.int tg, .ref a_st, .ref a_ck, .ref a_en, .ref a_au, .ref a_he, .ref a_qu, .ref a_lo, .ref a_ow, .ref a_fl, .ref a_ti, .ref a_gd, .ref a_ak, .ref a_sp, .ref a_se, .ref a_sd, .ref a_rw, .ref a_sz, .ref a_op, .ref a_th, .ref a_me, .ref a_pk, .int (nI kc), .int (cm + 1), .int (s_Model_judge pk kc), .ref a_re, .int (nI kq16), .ref a_dr])), (a_re, .inl (cI, 40, .inl re16))]) (wr := [(a_me, .inl (cI, 32, .inl me)), (a_pk, .inl (cI, 40, .inl pk))]) (ws1 := fun (u : (Nat → Int32) × Nat) => [(h0, .inr (7, [.int tg, .ref a_st, .ref a_ck, .ref a_en, .ref a_au, .ref a_he, .ref a_qu, .ref a_lo, .ref a_ow, .ref a_fl, .ref a_ti, .ref a_gd, .ref a_ak, .ref a_sp, .ref a_se, .ref a_sd, .ref a_rw, .ref a_sz, .ref a_op, .ref a_th, .ref a_me, .ref a_pk, .int (nI kc), .int (cm + 1), .int (s_Model_judge pk kc), .ref a_re, .int (nI u.2), .ref a_dr])), (a_me, .inl (cI, 32, .inl me)), (a_pk, .inl (cI, 40, .inl pk)), (a_re, .inl (cI, 40, .inl u.1))]) (va_runV (As := [.int (pk 4)]) (rest := []) ⟨hx, hb, hml, hown, hts⟩ (c_Model_say re16 kq16 (pk 4) h0 a_st a_ck a_en a_au a_he a_qu a_lo a_ow a_fl a_ti a_gd a_ak a_sp a_se a_sd a_rw a_sz a_op a_th a_me a_pk a_re a_dr tg kc (cm + 1) (s_Model_judge pk kc) (by omega) H.size) (xcwV 1 hts ww_693 ww_690 ww_692 ws_Model_say ww_8 (by decide +kernel) rfl rfl ⟨Nat.le_of_ble_eq_true rfl, Nat.le_of_ble_eq_true rfl⟩) (xPreV (ci := 7) (q0 := 0) (q := (R_Model, F_Model, 28)) (hP.sub [0, 3] rfl) (hD.sub [0, 3] (by decide) rfl) hK hN rfl rfl rfl) rfl rfl hl.1 rfl (lv_room (Nat.le_of_ble_eq_true rfl)) d_Model_obey_132 ⟨Nat.le_of_ble_eq_true rfl, Nat.le_of_ble_eq_true rfl⟩) hP hD hS hA [0, 3] [1, 2] [2, 0, 1, 3] rfl rfl (by decide) (by decide) (by decide) (fun _ => rfl) (fun u17 H locs hw hP hD hS => ?_)
      obtain ⟨re17, kq17⟩ := u17
      obtain ⟨hw, hkq_17⟩ := hw
      replace hP : va_P D vwCl [(h0, .inr (7, [.int tg, .ref a_st, .ref a_ck, .ref a_en, .ref a_au, .ref a_he, .ref a_qu, .ref a_lo, .ref a_ow, .ref a_fl, .ref a_ti, .ref a_gd, .ref a_ak, .ref a_sp, .ref a_se, .ref a_sd, .ref a_rw, .ref a_sz, .ref a_op, .ref a_th, .ref a_me, .ref a_pk, .int (nI kc), .int (cm + 1), .int (s_Model_judge pk kc), .ref a_re, .int (nI kq17), .ref a_dr])), (a_me, .inl (cI, 32, .inl me)), (a_pk, .inl (cI, 40, .inl pk)), (a_re, .inl (cI, 40, .inl re17))] H := hP
      replace hD : va_D A [(h0, .inr (7, [.int tg, .ref a_st, .ref a_ck, .ref a_en, .ref a_au, .ref a_he, .ref a_qu, .ref a_lo, .ref a_ow, .ref a_fl, .ref a_ti, .ref a_gd, .ref a_ak, .ref a_sp, .ref a_se, .ref a_sd, .ref a_rw, .ref a_sz, .ref a_op, .ref a_th, .ref a_me, .ref a_pk, .int (nI kc), .int (cm + 1), .int (s_Model_judge pk kc), .ref a_re, .int (nI kq17), .ref a_dr])), (a_me, .inl (cI, 32, .inl me)), (a_pk, .inl (cI, 40, .inl pk)), (a_re, .inl (cI, 40, .inl re17))] := hD
      have hw_17 := hw
      replace hq := hq.trans (bnd2_eq hw)
      try dsimp only at hq
      refine lv_aload_n hx hb d_Model_obey_135 rfl (lv_at hl 3 rfl) ?_
      refine lv_aload_n hx hb d_Model_obey_136 rfl (lv_at hl 3 rfl) ?_
      refine va_get (D := D) (ci := 7) (v := .ref a_pk) (C := R_Model) (T := F_Model) (N := 28) hx hb hts hin_Model hown hK hP 0 rfl rfl 21 (by decide) (hts _ (xm ww_554)) (fun _ h9 => h9) rfl d_Model_obey_137 ?_
      refine lv_iconst (v := 5) hx hb d_Model_obey_140 rfl ?_
      refine xiald (k := 5) hx hb hK hP 2 0 rfl rfl rfl (by decide) (by decide) d_Model_obey_141 ?_
      refine xcall_v (wc := [(h0, .inr (7, [.int tg, .ref a_st, .ref a_ck, .ref a_en, .ref a_au, .ref a_he, .ref a_qu, .ref a_lo, .ref a_ow, .ref a_fl, .ref a_ti, .ref a_gd, .ref a_ak, .ref a_sp, .ref a_se, .ref a_sd, .ref a_rw, .ref a_sz, .ref a_op, .ref a_th, .ref a_me, .ref a_pk, .int (nI kc), .int (cm + 1), .int (s_Model_judge pk kc), .ref a_re, .int (nI kq17), .ref a_dr])), (a_re, .inl (cI, 40, .inl re17))]) (wr := [(a_me, .inl (cI, 32, .inl me)), (a_pk, .inl (cI, 40, .inl pk))]) (ws1 := fun (u : (Nat → Int32) × Nat) => [(h0, .inr (7, [.int tg, .ref a_st, .ref a_ck, .ref a_en, .ref a_au, .ref a_he, .ref a_qu, .ref a_lo, .ref a_ow, .ref a_fl, .ref a_ti, .ref a_gd, .ref a_ak, .ref a_sp, .ref a_se, .ref a_sd, .ref a_rw, .ref a_sz, .ref a_op, .ref a_th, .ref a_me, .ref a_pk, .int (nI kc), .int (cm + 1), .int (s_Model_judge pk kc), .ref a_re, .int (nI u.2), .ref a_dr])), (a_me, .inl (cI, 32, .inl me)), (a_pk, .inl (cI, 40, .inl pk)), (a_re, .inl (cI, 40, .inl u.1))]) (va_runV (As := [.int (pk 5)]) (rest := []) ⟨hx, hb, hml, hown, hts⟩ (c_Model_say re17 kq17 (pk 5) h0 a_st a_ck a_en a_au a_he a_qu a_lo a_ow a_fl a_ti a_gd a_ak a_sp a_se a_sd a_rw a_sz a_op a_th a_me a_pk a_re a_dr tg kc (cm + 1) (s_Model_judge pk kc) (by omega) H.size) (xcwV 1 hts ww_693 ww_690 ww_692 ws_Model_say ww_8 (by decide +kernel) rfl rfl ⟨Nat.le_of_ble_eq_true rfl, Nat.le_of_ble_eq_true rfl⟩) (xPreV (ci := 7) (q0 := 0) (q := (R_Model, F_Model, 28)) (hP.sub [0, 3] rfl) (hD.sub [0, 3] (by decide) rfl) hK hN rfl rfl rfl) rfl rfl hl.1 rfl (lv_room (Nat.le_of_ble_eq_true rfl)) d_Model_obey_142 ⟨Nat.le_of_ble_eq_true rfl, Nat.le_of_ble_eq_true rfl⟩) hP hD hS hA [0, 3] [1, 2] [2, 0, 1, 3] rfl rfl (by decide) (by decide) (by decide) (fun _ => rfl) (fun u18 H locs hw hP hD hS => ?_)
      obtain ⟨re18, kq18⟩ := u18
      obtain ⟨hw, hkq_18⟩ := hw
      replace hP : va_P D vwCl [(h0, .inr (7, [.int tg, .ref a_st, .ref a_ck, .ref a_en, .ref a_au, .ref a_he, .ref a_qu, .ref a_lo, .ref a_ow, .ref a_fl, .ref a_ti, .ref a_gd, .ref a_ak, .ref a_sp, .ref a_se, .ref a_sd, .ref a_rw, .ref a_sz, .ref a_op, .ref a_th, .ref a_me, .ref a_pk, .int (nI kc), .int (cm + 1), .int (s_Model_judge pk kc), .ref a_re, .int (nI kq18), .ref a_dr])), (a_me, .inl (cI, 32, .inl me)), (a_pk, .inl (cI, 40, .inl pk)), (a_re, .inl (cI, 40, .inl re18))] H := hP
      replace hD : va_D A [(h0, .inr (7, [.int tg, .ref a_st, .ref a_ck, .ref a_en, .ref a_au, .ref a_he, .ref a_qu, .ref a_lo, .ref a_ow, .ref a_fl, .ref a_ti, .ref a_gd, .ref a_ak, .ref a_sp, .ref a_se, .ref a_sd, .ref a_rw, .ref a_sz, .ref a_op, .ref a_th, .ref a_me, .ref a_pk, .int (nI kc), .int (cm + 1), .int (s_Model_judge pk kc), .ref a_re, .int (nI kq18), .ref a_dr])), (a_me, .inl (cI, 32, .inl me)), (a_pk, .inl (cI, 40, .inl pk)), (a_re, .inl (cI, 40, .inl re18))] := hD
      have hw_18 := hw
      replace hq := hq.trans (bnd2_eq hw)
      try dsimp only at hq
      refine lv_iload_n hx hb d_Model_obey_145 rfl (lv_at hl 2 rfl) ?_
      refine lv_if_ne (tgt := 154) hx hb d_Model_obey_146 rfl (fun h19 => ?_) (fun h19 => ?_)
      · replace hq := hq.trans (if_neg h19)
        refine lv_aload_n hx hb d_Model_obey_154 rfl (lv_at hl 3 rfl) ?_
        refine lv_iconst (v := 0) hx hb d_Model_obey_155 rfl ?_
        refine xcall_v (wc := [(h0, .inr (7, [.int tg, .ref a_st, .ref a_ck, .ref a_en, .ref a_au, .ref a_he, .ref a_qu, .ref a_lo, .ref a_ow, .ref a_fl, .ref a_ti, .ref a_gd, .ref a_ak, .ref a_sp, .ref a_se, .ref a_sd, .ref a_rw, .ref a_sz, .ref a_op, .ref a_th, .ref a_me, .ref a_pk, .int (nI kc), .int (cm + 1), .int (s_Model_judge pk kc), .ref a_re, .int (nI kq18), .ref a_dr])), (a_re, .inl (cI, 40, .inl re18))]) (wr := [(a_me, .inl (cI, 32, .inl me)), (a_pk, .inl (cI, 40, .inl pk))]) (ws1 := fun (u : (Nat → Int32) × Nat) => [(h0, .inr (7, [.int tg, .ref a_st, .ref a_ck, .ref a_en, .ref a_au, .ref a_he, .ref a_qu, .ref a_lo, .ref a_ow, .ref a_fl, .ref a_ti, .ref a_gd, .ref a_ak, .ref a_sp, .ref a_se, .ref a_sd, .ref a_rw, .ref a_sz, .ref a_op, .ref a_th, .ref a_me, .ref a_pk, .int (nI kc), .int (cm + 1), .int (s_Model_judge pk kc), .ref a_re, .int (nI u.2), .ref a_dr])), (a_me, .inl (cI, 32, .inl me)), (a_pk, .inl (cI, 40, .inl pk)), (a_re, .inl (cI, 40, .inl u.1))]) (va_runV (As := [.int 0]) (rest := []) ⟨hx, hb, hml, hown, hts⟩ (c_Model_sayCheck re18 kq18 0 h0 a_st a_ck a_en a_au a_he a_qu a_lo a_ow a_fl a_ti a_gd a_ak a_sp a_se a_sd a_rw a_sz a_op a_th a_me a_pk a_re a_dr tg kc (cm + 1) (s_Model_judge pk kc) (by omega) (by omega) H.size) (xcwV 1 hts ww_697 ww_694 ww_696 ws_Model_sayCheck ww_8 (by decide +kernel) rfl rfl ⟨Nat.le_of_ble_eq_true rfl, Nat.le_of_ble_eq_true rfl⟩) (xPreV (ci := 7) (q0 := 0) (q := (R_Model, F_Model, 28)) (hP.sub [0, 3] rfl) (hD.sub [0, 3] (by decide) rfl) hK hN rfl rfl rfl) rfl rfl hl.1 rfl (lv_room (Nat.le_of_ble_eq_true rfl)) d_Model_obey_156 ⟨Nat.le_of_ble_eq_true rfl, Nat.le_of_ble_eq_true rfl⟩) hP hD hS hA [0, 3] [1, 2] [2, 0, 1, 3] rfl rfl (by decide) (by decide) (by decide) (fun _ => rfl) (fun u20 H locs hw hP hD hS => ?_)
        obtain ⟨re20, kq20⟩ := u20
        obtain ⟨hw, hkq_20⟩ := hw
        replace hP : va_P D vwCl [(h0, .inr (7, [.int tg, .ref a_st, .ref a_ck, .ref a_en, .ref a_au, .ref a_he, .ref a_qu, .ref a_lo, .ref a_ow, .ref a_fl, .ref a_ti, .ref a_gd, .ref a_ak, .ref a_sp, .ref a_se, .ref a_sd, .ref a_rw, .ref a_sz, .ref a_op, .ref a_th, .ref a_me, .ref a_pk, .int (nI kc), .int (cm + 1), .int (s_Model_judge pk kc), .ref a_re, .int (nI kq20), .ref a_dr])), (a_me, .inl (cI, 32, .inl me)), (a_pk, .inl (cI, 40, .inl pk)), (a_re, .inl (cI, 40, .inl re20))] H := hP
        replace hD : va_D A [(h0, .inr (7, [.int tg, .ref a_st, .ref a_ck, .ref a_en, .ref a_au, .ref a_he, .ref a_qu, .ref a_lo, .ref a_ow, .ref a_fl, .ref a_ti, .ref a_gd, .ref a_ak, .ref a_sp, .ref a_se, .ref a_sd, .ref a_rw, .ref a_sz, .ref a_op, .ref a_th, .ref a_me, .ref a_pk, .int (nI kc), .int (cm + 1), .int (s_Model_judge pk kc), .ref a_re, .int (nI kq20), .ref a_dr])), (a_me, .inl (cI, 32, .inl me)), (a_pk, .inl (cI, 40, .inl pk)), (a_re, .inl (cI, 40, .inl re20))] := hD
        have hw_20 := hw
        replace hq := hq.trans (bnd2_eq hw)
        try dsimp only at hq
        refine lv_iload_n hx hb d_Model_obey_159 rfl (lv_at hl 2 rfl) ?_
        refine lv_if_ne (tgt := 199) hx hb d_Model_obey_160 rfl (fun _ => ?_) (fun h9 => (absurd h9 h19))
        refine lv_aload_n hx hb d_Model_obey_199 rfl (lv_at hl 3 rfl) ?_
        refine lv_sipush (v := 256) hx hb d_Model_obey_200 rfl ?_
        refine xcall_v (wc := [(h0, .inr (7, [.int tg, .ref a_st, .ref a_ck, .ref a_en, .ref a_au, .ref a_he, .ref a_qu, .ref a_lo, .ref a_ow, .ref a_fl, .ref a_ti, .ref a_gd, .ref a_ak, .ref a_sp, .ref a_se, .ref a_sd, .ref a_rw, .ref a_sz, .ref a_op, .ref a_th, .ref a_me, .ref a_pk, .int (nI kc), .int (cm + 1), .int (s_Model_judge pk kc), .ref a_re, .int (nI kq20), .ref a_dr])), (a_re, .inl (cI, 40, .inl re20))]) (wr := [(a_me, .inl (cI, 32, .inl me)), (a_pk, .inl (cI, 40, .inl pk))]) (ws1 := fun (u : (Nat → Int32) × Nat) => [(h0, .inr (7, [.int tg, .ref a_st, .ref a_ck, .ref a_en, .ref a_au, .ref a_he, .ref a_qu, .ref a_lo, .ref a_ow, .ref a_fl, .ref a_ti, .ref a_gd, .ref a_ak, .ref a_sp, .ref a_se, .ref a_sd, .ref a_rw, .ref a_sz, .ref a_op, .ref a_th, .ref a_me, .ref a_pk, .int (nI kc), .int (cm + 1), .int (s_Model_judge pk kc), .ref a_re, .int (nI u.2), .ref a_dr])), (a_me, .inl (cI, 32, .inl me)), (a_pk, .inl (cI, 40, .inl pk)), (a_re, .inl (cI, 40, .inl u.1))]) (va_runV (As := [.int 256]) (rest := []) ⟨hx, hb, hml, hown, hts⟩ (c_Model_say re20 kq20 256 h0 a_st a_ck a_en a_au a_he a_qu a_lo a_ow a_fl a_ti a_gd a_ak a_sp a_se a_sd a_rw a_sz a_op a_th a_me a_pk a_re a_dr tg kc (cm + 1) (s_Model_judge pk kc) (by omega) H.size) (xcwV 1 hts ww_693 ww_690 ww_692 ws_Model_say ww_8 (by decide +kernel) rfl rfl ⟨Nat.le_of_ble_eq_true rfl, Nat.le_of_ble_eq_true rfl⟩) (xPreV (ci := 7) (q0 := 0) (q := (R_Model, F_Model, 28)) (hP.sub [0, 3] rfl) (hD.sub [0, 3] (by decide) rfl) hK hN rfl rfl rfl) rfl rfl hl.1 rfl (lv_room (Nat.le_of_ble_eq_true rfl)) d_Model_obey_203 ⟨Nat.le_of_ble_eq_true rfl, Nat.le_of_ble_eq_true rfl⟩) hP hD hS hA [0, 3] [1, 2] [2, 0, 1, 3] rfl rfl (by decide) (by decide) (by decide) (fun _ => rfl) (fun u22 H locs hw hP hD hS => ?_)
        obtain ⟨re22, kq22⟩ := u22
        obtain ⟨hw, hkq_22⟩ := hw
        replace hP : va_P D vwCl [(h0, .inr (7, [.int tg, .ref a_st, .ref a_ck, .ref a_en, .ref a_au, .ref a_he, .ref a_qu, .ref a_lo, .ref a_ow, .ref a_fl, .ref a_ti, .ref a_gd, .ref a_ak, .ref a_sp, .ref a_se, .ref a_sd, .ref a_rw, .ref a_sz, .ref a_op, .ref a_th, .ref a_me, .ref a_pk, .int (nI kc), .int (cm + 1), .int (s_Model_judge pk kc), .ref a_re, .int (nI kq22), .ref a_dr])), (a_me, .inl (cI, 32, .inl me)), (a_pk, .inl (cI, 40, .inl pk)), (a_re, .inl (cI, 40, .inl re22))] H := hP
        replace hD : va_D A [(h0, .inr (7, [.int tg, .ref a_st, .ref a_ck, .ref a_en, .ref a_au, .ref a_he, .ref a_qu, .ref a_lo, .ref a_ow, .ref a_fl, .ref a_ti, .ref a_gd, .ref a_ak, .ref a_sp, .ref a_se, .ref a_sd, .ref a_rw, .ref a_sz, .ref a_op, .ref a_th, .ref a_me, .ref a_pk, .int (nI kc), .int (cm + 1), .int (s_Model_judge pk kc), .ref a_re, .int (nI kq22), .ref a_dr])), (a_me, .inl (cI, 32, .inl me)), (a_pk, .inl (cI, 40, .inl pk)), (a_re, .inl (cI, 40, .inl re22))] := hD
        have hw_22 := hw
        replace hq := hq.trans (bnd2_eq hw)
        try dsimp only at hq
        exact Cs_Model_obey_206 re22 kq22 _ _ _ (by omega) (lv_sub hl [0, 1, 2, 3] rfl) hP hD hS hq
      replace hq := hq.trans (if_pos h19)
      refine lv_aload_n hx hb d_Model_obey_149 rfl (lv_at hl 3 rfl) ?_
      refine lv_iload_n hx hb d_Model_obey_150 rfl (lv_at hl 0 rfl) ?_
      refine xcall_v (wc := [(h0, .inr (7, [.int tg, .ref a_st, .ref a_ck, .ref a_en, .ref a_au, .ref a_he, .ref a_qu, .ref a_lo, .ref a_ow, .ref a_fl, .ref a_ti, .ref a_gd, .ref a_ak, .ref a_sp, .ref a_se, .ref a_sd, .ref a_rw, .ref a_sz, .ref a_op, .ref a_th, .ref a_me, .ref a_pk, .int (nI kc), .int (cm + 1), .int (s_Model_judge pk kc), .ref a_re, .int (nI kq18), .ref a_dr])), (a_re, .inl (cI, 40, .inl re18))]) (wr := [(a_me, .inl (cI, 32, .inl me)), (a_pk, .inl (cI, 40, .inl pk))]) (ws1 := fun (u : (Nat → Int32) × Nat) => [(h0, .inr (7, [.int tg, .ref a_st, .ref a_ck, .ref a_en, .ref a_au, .ref a_he, .ref a_qu, .ref a_lo, .ref a_ow, .ref a_fl, .ref a_ti, .ref a_gd, .ref a_ak, .ref a_sp, .ref a_se, .ref a_sd, .ref a_rw, .ref a_sz, .ref a_op, .ref a_th, .ref a_me, .ref a_pk, .int (nI kc), .int (cm + 1), .int (s_Model_judge pk kc), .ref a_re, .int (nI u.2), .ref a_dr])), (a_me, .inl (cI, 32, .inl me)), (a_pk, .inl (cI, 40, .inl pk)), (a_re, .inl (cI, 40, .inl u.1))]) (va_runV (As := [.int an]) (rest := []) ⟨hx, hb, hml, hown, hts⟩ (c_Model_say re18 kq18 an h0 a_st a_ck a_en a_au a_he a_qu a_lo a_ow a_fl a_ti a_gd a_ak a_sp a_se a_sd a_rw a_sz a_op a_th a_me a_pk a_re a_dr tg kc (cm + 1) (s_Model_judge pk kc) (by omega) H.size) (xcwV 1 hts ww_693 ww_690 ww_692 ws_Model_say ww_8 (by decide +kernel) rfl rfl ⟨Nat.le_of_ble_eq_true rfl, Nat.le_of_ble_eq_true rfl⟩) (xPreV (ci := 7) (q0 := 0) (q := (R_Model, F_Model, 28)) (hP.sub [0, 3] rfl) (hD.sub [0, 3] (by decide) rfl) hK hN rfl rfl rfl) rfl rfl hl.1 rfl (lv_room (Nat.le_of_ble_eq_true rfl)) d_Model_obey_151 ⟨Nat.le_of_ble_eq_true rfl, Nat.le_of_ble_eq_true rfl⟩) hP hD hS hA [0, 3] [1, 2] [2, 0, 1, 3] rfl rfl (by decide) (by decide) (by decide) (fun _ => rfl) (fun u23 H locs hw hP hD hS => ?_)
      obtain ⟨re23, kq23⟩ := u23
      obtain ⟨hw, hkq_23⟩ := hw
      replace hP : va_P D vwCl [(h0, .inr (7, [.int tg, .ref a_st, .ref a_ck, .ref a_en, .ref a_au, .ref a_he, .ref a_qu, .ref a_lo, .ref a_ow, .ref a_fl, .ref a_ti, .ref a_gd, .ref a_ak, .ref a_sp, .ref a_se, .ref a_sd, .ref a_rw, .ref a_sz, .ref a_op, .ref a_th, .ref a_me, .ref a_pk, .int (nI kc), .int (cm + 1), .int (s_Model_judge pk kc), .ref a_re, .int (nI kq23), .ref a_dr])), (a_me, .inl (cI, 32, .inl me)), (a_pk, .inl (cI, 40, .inl pk)), (a_re, .inl (cI, 40, .inl re23))] H := hP
      replace hD : va_D A [(h0, .inr (7, [.int tg, .ref a_st, .ref a_ck, .ref a_en, .ref a_au, .ref a_he, .ref a_qu, .ref a_lo, .ref a_ow, .ref a_fl, .ref a_ti, .ref a_gd, .ref a_ak, .ref a_sp, .ref a_se, .ref a_sd, .ref a_rw, .ref a_sz, .ref a_op, .ref a_th, .ref a_me, .ref a_pk, .int (nI kc), .int (cm + 1), .int (s_Model_judge pk kc), .ref a_re, .int (nI kq23), .ref a_dr])), (a_me, .inl (cI, 32, .inl me)), (a_pk, .inl (cI, 40, .inl pk)), (a_re, .inl (cI, 40, .inl re23))] := hD
      have hw_23 := hw
      replace hq := hq.trans (bnd2_eq hw)
      try dsimp only at hq
      refine lv_aload_n hx hb d_Model_obey_154 rfl (lv_at hl 3 rfl) ?_
      refine lv_iconst (v := 0) hx hb d_Model_obey_155 rfl ?_
      refine xcall_v (wc := [(h0, .inr (7, [.int tg, .ref a_st, .ref a_ck, .ref a_en, .ref a_au, .ref a_he, .ref a_qu, .ref a_lo, .ref a_ow, .ref a_fl, .ref a_ti, .ref a_gd, .ref a_ak, .ref a_sp, .ref a_se, .ref a_sd, .ref a_rw, .ref a_sz, .ref a_op, .ref a_th, .ref a_me, .ref a_pk, .int (nI kc), .int (cm + 1), .int (s_Model_judge pk kc), .ref a_re, .int (nI kq23), .ref a_dr])), (a_re, .inl (cI, 40, .inl re23))]) (wr := [(a_me, .inl (cI, 32, .inl me)), (a_pk, .inl (cI, 40, .inl pk))]) (ws1 := fun (u : (Nat → Int32) × Nat) => [(h0, .inr (7, [.int tg, .ref a_st, .ref a_ck, .ref a_en, .ref a_au, .ref a_he, .ref a_qu, .ref a_lo, .ref a_ow, .ref a_fl, .ref a_ti, .ref a_gd, .ref a_ak, .ref a_sp, .ref a_se, .ref a_sd, .ref a_rw, .ref a_sz, .ref a_op, .ref a_th, .ref a_me, .ref a_pk, .int (nI kc), .int (cm + 1), .int (s_Model_judge pk kc), .ref a_re, .int (nI u.2), .ref a_dr])), (a_me, .inl (cI, 32, .inl me)), (a_pk, .inl (cI, 40, .inl pk)), (a_re, .inl (cI, 40, .inl u.1))]) (va_runV (As := [.int 0]) (rest := []) ⟨hx, hb, hml, hown, hts⟩ (c_Model_sayCheck re23 kq23 0 h0 a_st a_ck a_en a_au a_he a_qu a_lo a_ow a_fl a_ti a_gd a_ak a_sp a_se a_sd a_rw a_sz a_op a_th a_me a_pk a_re a_dr tg kc (cm + 1) (s_Model_judge pk kc) (by omega) (by omega) H.size) (xcwV 1 hts ww_697 ww_694 ww_696 ws_Model_sayCheck ww_8 (by decide +kernel) rfl rfl ⟨Nat.le_of_ble_eq_true rfl, Nat.le_of_ble_eq_true rfl⟩) (xPreV (ci := 7) (q0 := 0) (q := (R_Model, F_Model, 28)) (hP.sub [0, 3] rfl) (hD.sub [0, 3] (by decide) rfl) hK hN rfl rfl rfl) rfl rfl hl.1 rfl (lv_room (Nat.le_of_ble_eq_true rfl)) d_Model_obey_156 ⟨Nat.le_of_ble_eq_true rfl, Nat.le_of_ble_eq_true rfl⟩) hP hD hS hA [0, 3] [1, 2] [2, 0, 1, 3] rfl rfl (by decide) (by decide) (by decide) (fun _ => rfl) (fun u24 H locs hw hP hD hS => ?_)
      obtain ⟨re24, kq24⟩ := u24
      obtain ⟨hw, hkq_24⟩ := hw
      replace hP : va_P D vwCl [(h0, .inr (7, [.int tg, .ref a_st, .ref a_ck, .ref a_en, .ref a_au, .ref a_he, .ref a_qu, .ref a_lo, .ref a_ow, .ref a_fl, .ref a_ti, .ref a_gd, .ref a_ak, .ref a_sp, .ref a_se, .ref a_sd, .ref a_rw, .ref a_sz, .ref a_op, .ref a_th, .ref a_me, .ref a_pk, .int (nI kc), .int (cm + 1), .int (s_Model_judge pk kc), .ref a_re, .int (nI kq24), .ref a_dr])), (a_me, .inl (cI, 32, .inl me)), (a_pk, .inl (cI, 40, .inl pk)), (a_re, .inl (cI, 40, .inl re24))] H := hP
      replace hD : va_D A [(h0, .inr (7, [.int tg, .ref a_st, .ref a_ck, .ref a_en, .ref a_au, .ref a_he, .ref a_qu, .ref a_lo, .ref a_ow, .ref a_fl, .ref a_ti, .ref a_gd, .ref a_ak, .ref a_sp, .ref a_se, .ref a_sd, .ref a_rw, .ref a_sz, .ref a_op, .ref a_th, .ref a_me, .ref a_pk, .int (nI kc), .int (cm + 1), .int (s_Model_judge pk kc), .ref a_re, .int (nI kq24), .ref a_dr])), (a_me, .inl (cI, 32, .inl me)), (a_pk, .inl (cI, 40, .inl pk)), (a_re, .inl (cI, 40, .inl re24))] := hD
      have hw_24 := hw
      replace hq := hq.trans (bnd2_eq hw)
      try dsimp only at hq
      refine lv_iload_n hx hb d_Model_obey_159 rfl (lv_at hl 2 rfl) ?_
      refine lv_if_ne (tgt := 199) hx hb d_Model_obey_160 rfl (fun h9 => (absurd h19 h9)) (fun _ => ?_)
      refine lv_iconst (v := 0) hx hb d_Model_obey_163 rfl ?_
      refine lv_istore hx hb d_Model_obey_164 hl (by decide) rfl (fun ls hl => ?_)
      replace hl : lv_has ls 5 [(4, .int 0), (3, .int an), (2, .int y4), (1, .int (s_Model_has pk 32)), (0, .ref h0)] := hl
      have LPlp_obey : ∀ (nlp_obey : Nat) (j : Nat) (re2 : Nat → Int32) (kq2 : Nat) (ls : Array Slot) (H : Heap) (locs : List Loc), (j ≤ an.toNatClampNeg) → (kq2 = 8 + j) → an.toNatClampNeg - j ≤ nlp_obey → lv_has ls 5 [(4, .int (nI j)), (3, .int an), (2, .int y4), (1, .int (s_Model_has pk 32)), (0, .ref h0)] → va_P D vwCl [(h0, .inr (7, [.int tg, .ref a_st, .ref a_ck, .ref a_en, .ref a_au, .ref a_he, .ref a_qu, .ref a_lo, .ref a_ow, .ref a_fl, .ref a_ti, .ref a_gd, .ref a_ak, .ref a_sp, .ref a_se, .ref a_sd, .ref a_rw, .ref a_sz, .ref a_op, .ref a_th, .ref a_me, .ref a_pk, .int (nI kc), .int (cm + 1), .int (s_Model_judge pk kc), .ref a_re, .int (nI kq2), .ref a_dr])), (a_me, .inl (cI, 32, .inl me)), (a_pk, .inl (cI, 40, .inl pk)), (a_re, .inl (cI, 40, .inl re2))] H → va_D A [(h0, .inr (7, [.int tg, .ref a_st, .ref a_ck, .ref a_en, .ref a_au, .ref a_he, .ref a_qu, .ref a_lo, .ref a_ow, .ref a_fl, .ref a_ti, .ref a_gd, .ref a_ak, .ref a_sp, .ref a_se, .ref a_sd, .ref a_rw, .ref a_sz, .ref a_op, .ref a_th, .ref a_me, .ref a_pk, .int (nI kc), .int (cm + 1), .int (s_Model_judge pk kc), .ref a_re, .int (nI kq2), .ref a_dr])), (a_me, .inl (cI, 32, .inl me)), (a_pk, .inl (cI, 40, .inl pk)), (a_re, .inl (cI, 40, .inl re2))] → va_S A s.heap H locs → s_Model_obey me pk kc cm re kq = lp_obey me pk kc cm y4 an nlp_obey j re2 kq2 → W p l e rm_Model_obey s m args below meth c H locs 0 0 Q (F0 m 166 ls []) := by
        intro nlp_obey
        induction nlp_obey with
        | zero =>
          intro j re2 kq2 ls H locs hj hk2 hmlp_obey hl hP hD hS hq
          replace hq : s_Model_obey me pk kc cm re kq = (bnd2 (s_Model_sayCheck re2 kq2 8) (fun re27 kq27 => bnd2 (s_Model_say re27 kq27 256) (fun re28 kq28 => s_Model_obey_206 me pk kc cm y4 an re28 kq28))) := hq
          refine lv_iload hx hb d_Model_obey_166 (lv_at hl 0 rfl) ?_
          refine lv_iload_n hx hb d_Model_obey_168 rfl (lv_at hl 1 rfl) ?_
          refine lv_icmp_ge (tgt := 193) hx hb d_Model_obey_169 rfl (fun h26 => ?_) (fun h26 => ?_)
          rotate_left
          · exact absurd (xle_w hj h26) (by omega)
          refine lv_aload_n hx hb d_Model_obey_193 rfl (lv_at hl 4 rfl) ?_
          refine lv_bipush (v := 8) hx hb d_Model_obey_194 rfl ?_
          refine xcall_v (wc := [(h0, .inr (7, [.int tg, .ref a_st, .ref a_ck, .ref a_en, .ref a_au, .ref a_he, .ref a_qu, .ref a_lo, .ref a_ow, .ref a_fl, .ref a_ti, .ref a_gd, .ref a_ak, .ref a_sp, .ref a_se, .ref a_sd, .ref a_rw, .ref a_sz, .ref a_op, .ref a_th, .ref a_me, .ref a_pk, .int (nI kc), .int (cm + 1), .int (s_Model_judge pk kc), .ref a_re, .int (nI kq2), .ref a_dr])), (a_re, .inl (cI, 40, .inl re2))]) (wr := [(a_me, .inl (cI, 32, .inl me)), (a_pk, .inl (cI, 40, .inl pk))]) (ws1 := fun (u : (Nat → Int32) × Nat) => [(h0, .inr (7, [.int tg, .ref a_st, .ref a_ck, .ref a_en, .ref a_au, .ref a_he, .ref a_qu, .ref a_lo, .ref a_ow, .ref a_fl, .ref a_ti, .ref a_gd, .ref a_ak, .ref a_sp, .ref a_se, .ref a_sd, .ref a_rw, .ref a_sz, .ref a_op, .ref a_th, .ref a_me, .ref a_pk, .int (nI kc), .int (cm + 1), .int (s_Model_judge pk kc), .ref a_re, .int (nI u.2), .ref a_dr])), (a_me, .inl (cI, 32, .inl me)), (a_pk, .inl (cI, 40, .inl pk)), (a_re, .inl (cI, 40, .inl u.1))]) (va_runV (As := [.int 8]) (rest := []) ⟨hx, hb, hml, hown, hts⟩ (c_Model_sayCheck re2 kq2 8 h0 a_st a_ck a_en a_au a_he a_qu a_lo a_ow a_fl a_ti a_gd a_ak a_sp a_se a_sd a_rw a_sz a_op a_th a_me a_pk a_re a_dr tg kc (cm + 1) (s_Model_judge pk kc) (by omega) (by omega) H.size) (xcwV 1 hts ww_697 ww_694 ww_696 ws_Model_sayCheck ww_8 (by decide +kernel) rfl rfl ⟨Nat.le_of_ble_eq_true rfl, Nat.le_of_ble_eq_true rfl⟩) (xPreV (ci := 7) (q0 := 0) (q := (R_Model, F_Model, 28)) (hP.sub [0, 3] rfl) (hD.sub [0, 3] (by decide) rfl) hK hN rfl rfl rfl) rfl rfl hl.1 rfl (lv_room (Nat.le_of_ble_eq_true rfl)) d_Model_obey_196 ⟨Nat.le_of_ble_eq_true rfl, Nat.le_of_ble_eq_true rfl⟩) hP hD hS hA [0, 3] [1, 2] [2, 0, 1, 3] rfl rfl (by decide) (by decide) (by decide) (fun _ => rfl) (fun u27 H locs hw hP hD hS => ?_)
          obtain ⟨re27, kq27⟩ := u27
          obtain ⟨hw, hkq_27⟩ := hw
          replace hP : va_P D vwCl [(h0, .inr (7, [.int tg, .ref a_st, .ref a_ck, .ref a_en, .ref a_au, .ref a_he, .ref a_qu, .ref a_lo, .ref a_ow, .ref a_fl, .ref a_ti, .ref a_gd, .ref a_ak, .ref a_sp, .ref a_se, .ref a_sd, .ref a_rw, .ref a_sz, .ref a_op, .ref a_th, .ref a_me, .ref a_pk, .int (nI kc), .int (cm + 1), .int (s_Model_judge pk kc), .ref a_re, .int (nI kq27), .ref a_dr])), (a_me, .inl (cI, 32, .inl me)), (a_pk, .inl (cI, 40, .inl pk)), (a_re, .inl (cI, 40, .inl re27))] H := hP
          replace hD : va_D A [(h0, .inr (7, [.int tg, .ref a_st, .ref a_ck, .ref a_en, .ref a_au, .ref a_he, .ref a_qu, .ref a_lo, .ref a_ow, .ref a_fl, .ref a_ti, .ref a_gd, .ref a_ak, .ref a_sp, .ref a_se, .ref a_sd, .ref a_rw, .ref a_sz, .ref a_op, .ref a_th, .ref a_me, .ref a_pk, .int (nI kc), .int (cm + 1), .int (s_Model_judge pk kc), .ref a_re, .int (nI kq27), .ref a_dr])), (a_me, .inl (cI, 32, .inl me)), (a_pk, .inl (cI, 40, .inl pk)), (a_re, .inl (cI, 40, .inl re27))] := hD
          have hw_27 := hw
          replace hq := hq.trans (bnd2_eq hw)
          try dsimp only at hq
          refine lv_aload_n hx hb d_Model_obey_199 rfl (lv_at hl 4 rfl) ?_
          refine lv_sipush (v := 256) hx hb d_Model_obey_200 rfl ?_
          refine xcall_v (wc := [(h0, .inr (7, [.int tg, .ref a_st, .ref a_ck, .ref a_en, .ref a_au, .ref a_he, .ref a_qu, .ref a_lo, .ref a_ow, .ref a_fl, .ref a_ti, .ref a_gd, .ref a_ak, .ref a_sp, .ref a_se, .ref a_sd, .ref a_rw, .ref a_sz, .ref a_op, .ref a_th, .ref a_me, .ref a_pk, .int (nI kc), .int (cm + 1), .int (s_Model_judge pk kc), .ref a_re, .int (nI kq27), .ref a_dr])), (a_re, .inl (cI, 40, .inl re27))]) (wr := [(a_me, .inl (cI, 32, .inl me)), (a_pk, .inl (cI, 40, .inl pk))]) (ws1 := fun (u : (Nat → Int32) × Nat) => [(h0, .inr (7, [.int tg, .ref a_st, .ref a_ck, .ref a_en, .ref a_au, .ref a_he, .ref a_qu, .ref a_lo, .ref a_ow, .ref a_fl, .ref a_ti, .ref a_gd, .ref a_ak, .ref a_sp, .ref a_se, .ref a_sd, .ref a_rw, .ref a_sz, .ref a_op, .ref a_th, .ref a_me, .ref a_pk, .int (nI kc), .int (cm + 1), .int (s_Model_judge pk kc), .ref a_re, .int (nI u.2), .ref a_dr])), (a_me, .inl (cI, 32, .inl me)), (a_pk, .inl (cI, 40, .inl pk)), (a_re, .inl (cI, 40, .inl u.1))]) (va_runV (As := [.int 256]) (rest := []) ⟨hx, hb, hml, hown, hts⟩ (c_Model_say re27 kq27 256 h0 a_st a_ck a_en a_au a_he a_qu a_lo a_ow a_fl a_ti a_gd a_ak a_sp a_se a_sd a_rw a_sz a_op a_th a_me a_pk a_re a_dr tg kc (cm + 1) (s_Model_judge pk kc) (by omega) H.size) (xcwV 1 hts ww_693 ww_690 ww_692 ws_Model_say ww_8 (by decide +kernel) rfl rfl ⟨Nat.le_of_ble_eq_true rfl, Nat.le_of_ble_eq_true rfl⟩) (xPreV (ci := 7) (q0 := 0) (q := (R_Model, F_Model, 28)) (hP.sub [0, 3] rfl) (hD.sub [0, 3] (by decide) rfl) hK hN rfl rfl rfl) rfl rfl hl.1 rfl (lv_room (Nat.le_of_ble_eq_true rfl)) d_Model_obey_203 ⟨Nat.le_of_ble_eq_true rfl, Nat.le_of_ble_eq_true rfl⟩) hP hD hS hA [0, 3] [1, 2] [2, 0, 1, 3] rfl rfl (by decide) (by decide) (by decide) (fun _ => rfl) (fun u28 H locs hw hP hD hS => ?_)
          obtain ⟨re28, kq28⟩ := u28
          obtain ⟨hw, hkq_28⟩ := hw
          replace hP : va_P D vwCl [(h0, .inr (7, [.int tg, .ref a_st, .ref a_ck, .ref a_en, .ref a_au, .ref a_he, .ref a_qu, .ref a_lo, .ref a_ow, .ref a_fl, .ref a_ti, .ref a_gd, .ref a_ak, .ref a_sp, .ref a_se, .ref a_sd, .ref a_rw, .ref a_sz, .ref a_op, .ref a_th, .ref a_me, .ref a_pk, .int (nI kc), .int (cm + 1), .int (s_Model_judge pk kc), .ref a_re, .int (nI kq28), .ref a_dr])), (a_me, .inl (cI, 32, .inl me)), (a_pk, .inl (cI, 40, .inl pk)), (a_re, .inl (cI, 40, .inl re28))] H := hP
          replace hD : va_D A [(h0, .inr (7, [.int tg, .ref a_st, .ref a_ck, .ref a_en, .ref a_au, .ref a_he, .ref a_qu, .ref a_lo, .ref a_ow, .ref a_fl, .ref a_ti, .ref a_gd, .ref a_ak, .ref a_sp, .ref a_se, .ref a_sd, .ref a_rw, .ref a_sz, .ref a_op, .ref a_th, .ref a_me, .ref a_pk, .int (nI kc), .int (cm + 1), .int (s_Model_judge pk kc), .ref a_re, .int (nI kq28), .ref a_dr])), (a_me, .inl (cI, 32, .inl me)), (a_pk, .inl (cI, 40, .inl pk)), (a_re, .inl (cI, 40, .inl re28))] := hD
          have hw_28 := hw
          replace hq := hq.trans (bnd2_eq hw)
          try dsimp only at hq
          exact Cs_Model_obey_206 re28 kq28 _ _ _ (by omega) (lv_sub hl [1, 2, 3, 4] rfl) hP hD hS hq
        | succ nlp_obey ihlp_obey =>
          intro j re2 kq2 ls H locs hj hk2 hmlp_obey hl hP hD hS hq
          replace hq : s_Model_obey me pk kc cm re kq = (if an ≤ (nI j) then (bnd2 (s_Model_sayCheck re2 kq2 8) (fun re30 kq30 => bnd2 (s_Model_say re30 kq30 256) (fun re31 kq31 => s_Model_obey_206 me pk kc cm y4 an re31 kq31))) else (bnd2 (s_Model_say re2 kq2 (me ((s_Model_addressOf pk (nI j)).toNatClampNeg))) (fun re33 kq33 => lp_obey me pk kc cm y4 an nlp_obey (j + 1) re33 kq33))) := hq
          refine lv_iload hx hb d_Model_obey_166 (lv_at hl 0 rfl) ?_
          refine lv_iload_n hx hb d_Model_obey_168 rfl (lv_at hl 1 rfl) ?_
          refine lv_icmp_ge (tgt := 193) hx hb d_Model_obey_169 rfl (fun h29 => ?_) (fun h29 => ?_)
          · replace hq := hq.trans (if_pos h29)
            refine lv_aload_n hx hb d_Model_obey_193 rfl (lv_at hl 4 rfl) ?_
            refine lv_bipush (v := 8) hx hb d_Model_obey_194 rfl ?_
            refine xcall_v (wc := [(h0, .inr (7, [.int tg, .ref a_st, .ref a_ck, .ref a_en, .ref a_au, .ref a_he, .ref a_qu, .ref a_lo, .ref a_ow, .ref a_fl, .ref a_ti, .ref a_gd, .ref a_ak, .ref a_sp, .ref a_se, .ref a_sd, .ref a_rw, .ref a_sz, .ref a_op, .ref a_th, .ref a_me, .ref a_pk, .int (nI kc), .int (cm + 1), .int (s_Model_judge pk kc), .ref a_re, .int (nI kq2), .ref a_dr])), (a_re, .inl (cI, 40, .inl re2))]) (wr := [(a_me, .inl (cI, 32, .inl me)), (a_pk, .inl (cI, 40, .inl pk))]) (ws1 := fun (u : (Nat → Int32) × Nat) => [(h0, .inr (7, [.int tg, .ref a_st, .ref a_ck, .ref a_en, .ref a_au, .ref a_he, .ref a_qu, .ref a_lo, .ref a_ow, .ref a_fl, .ref a_ti, .ref a_gd, .ref a_ak, .ref a_sp, .ref a_se, .ref a_sd, .ref a_rw, .ref a_sz, .ref a_op, .ref a_th, .ref a_me, .ref a_pk, .int (nI kc), .int (cm + 1), .int (s_Model_judge pk kc), .ref a_re, .int (nI u.2), .ref a_dr])), (a_me, .inl (cI, 32, .inl me)), (a_pk, .inl (cI, 40, .inl pk)), (a_re, .inl (cI, 40, .inl u.1))]) (va_runV (As := [.int 8]) (rest := []) ⟨hx, hb, hml, hown, hts⟩ (c_Model_sayCheck re2 kq2 8 h0 a_st a_ck a_en a_au a_he a_qu a_lo a_ow a_fl a_ti a_gd a_ak a_sp a_se a_sd a_rw a_sz a_op a_th a_me a_pk a_re a_dr tg kc (cm + 1) (s_Model_judge pk kc) (by omega) (by omega) H.size) (xcwV 1 hts ww_697 ww_694 ww_696 ws_Model_sayCheck ww_8 (by decide +kernel) rfl rfl ⟨Nat.le_of_ble_eq_true rfl, Nat.le_of_ble_eq_true rfl⟩) (xPreV (ci := 7) (q0 := 0) (q := (R_Model, F_Model, 28)) (hP.sub [0, 3] rfl) (hD.sub [0, 3] (by decide) rfl) hK hN rfl rfl rfl) rfl rfl hl.1 rfl (lv_room (Nat.le_of_ble_eq_true rfl)) d_Model_obey_196 ⟨Nat.le_of_ble_eq_true rfl, Nat.le_of_ble_eq_true rfl⟩) hP hD hS hA [0, 3] [1, 2] [2, 0, 1, 3] rfl rfl (by decide) (by decide) (by decide) (fun _ => rfl) (fun u30 H locs hw hP hD hS => ?_)
            obtain ⟨re30, kq30⟩ := u30
            obtain ⟨hw, hkq_30⟩ := hw
            replace hP : va_P D vwCl [(h0, .inr (7, [.int tg, .ref a_st, .ref a_ck, .ref a_en, .ref a_au, .ref a_he, .ref a_qu, .ref a_lo, .ref a_ow, .ref a_fl, .ref a_ti, .ref a_gd, .ref a_ak, .ref a_sp, .ref a_se, .ref a_sd, .ref a_rw, .ref a_sz, .ref a_op, .ref a_th, .ref a_me, .ref a_pk, .int (nI kc), .int (cm + 1), .int (s_Model_judge pk kc), .ref a_re, .int (nI kq30), .ref a_dr])), (a_me, .inl (cI, 32, .inl me)), (a_pk, .inl (cI, 40, .inl pk)), (a_re, .inl (cI, 40, .inl re30))] H := hP
            replace hD : va_D A [(h0, .inr (7, [.int tg, .ref a_st, .ref a_ck, .ref a_en, .ref a_au, .ref a_he, .ref a_qu, .ref a_lo, .ref a_ow, .ref a_fl, .ref a_ti, .ref a_gd, .ref a_ak, .ref a_sp, .ref a_se, .ref a_sd, .ref a_rw, .ref a_sz, .ref a_op, .ref a_th, .ref a_me, .ref a_pk, .int (nI kc), .int (cm + 1), .int (s_Model_judge pk kc), .ref a_re, .int (nI kq30), .ref a_dr])), (a_me, .inl (cI, 32, .inl me)), (a_pk, .inl (cI, 40, .inl pk)), (a_re, .inl (cI, 40, .inl re30))] := hD
            have hw_30 := hw
            replace hq := hq.trans (bnd2_eq hw)
            try dsimp only at hq
            refine lv_aload_n hx hb d_Model_obey_199 rfl (lv_at hl 4 rfl) ?_
            refine lv_sipush (v := 256) hx hb d_Model_obey_200 rfl ?_
            refine xcall_v (wc := [(h0, .inr (7, [.int tg, .ref a_st, .ref a_ck, .ref a_en, .ref a_au, .ref a_he, .ref a_qu, .ref a_lo, .ref a_ow, .ref a_fl, .ref a_ti, .ref a_gd, .ref a_ak, .ref a_sp, .ref a_se, .ref a_sd, .ref a_rw, .ref a_sz, .ref a_op, .ref a_th, .ref a_me, .ref a_pk, .int (nI kc), .int (cm + 1), .int (s_Model_judge pk kc), .ref a_re, .int (nI kq30), .ref a_dr])), (a_re, .inl (cI, 40, .inl re30))]) (wr := [(a_me, .inl (cI, 32, .inl me)), (a_pk, .inl (cI, 40, .inl pk))]) (ws1 := fun (u : (Nat → Int32) × Nat) => [(h0, .inr (7, [.int tg, .ref a_st, .ref a_ck, .ref a_en, .ref a_au, .ref a_he, .ref a_qu, .ref a_lo, .ref a_ow, .ref a_fl, .ref a_ti, .ref a_gd, .ref a_ak, .ref a_sp, .ref a_se, .ref a_sd, .ref a_rw, .ref a_sz, .ref a_op, .ref a_th, .ref a_me, .ref a_pk, .int (nI kc), .int (cm + 1), .int (s_Model_judge pk kc), .ref a_re, .int (nI u.2), .ref a_dr])), (a_me, .inl (cI, 32, .inl me)), (a_pk, .inl (cI, 40, .inl pk)), (a_re, .inl (cI, 40, .inl u.1))]) (va_runV (As := [.int 256]) (rest := []) ⟨hx, hb, hml, hown, hts⟩ (c_Model_say re30 kq30 256 h0 a_st a_ck a_en a_au a_he a_qu a_lo a_ow a_fl a_ti a_gd a_ak a_sp a_se a_sd a_rw a_sz a_op a_th a_me a_pk a_re a_dr tg kc (cm + 1) (s_Model_judge pk kc) (by omega) H.size) (xcwV 1 hts ww_693 ww_690 ww_692 ws_Model_say ww_8 (by decide +kernel) rfl rfl ⟨Nat.le_of_ble_eq_true rfl, Nat.le_of_ble_eq_true rfl⟩) (xPreV (ci := 7) (q0 := 0) (q := (R_Model, F_Model, 28)) (hP.sub [0, 3] rfl) (hD.sub [0, 3] (by decide) rfl) hK hN rfl rfl rfl) rfl rfl hl.1 rfl (lv_room (Nat.le_of_ble_eq_true rfl)) d_Model_obey_203 ⟨Nat.le_of_ble_eq_true rfl, Nat.le_of_ble_eq_true rfl⟩) hP hD hS hA [0, 3] [1, 2] [2, 0, 1, 3] rfl rfl (by decide) (by decide) (by decide) (fun _ => rfl) (fun u31 H locs hw hP hD hS => ?_)
            obtain ⟨re31, kq31⟩ := u31
            obtain ⟨hw, hkq_31⟩ := hw
            replace hP : va_P D vwCl [(h0, .inr (7, [.int tg, .ref a_st, .ref a_ck, .ref a_en, .ref a_au, .ref a_he, .ref a_qu, .ref a_lo, .ref a_ow, .ref a_fl, .ref a_ti, .ref a_gd, .ref a_ak, .ref a_sp, .ref a_se, .ref a_sd, .ref a_rw, .ref a_sz, .ref a_op, .ref a_th, .ref a_me, .ref a_pk, .int (nI kc), .int (cm + 1), .int (s_Model_judge pk kc), .ref a_re, .int (nI kq31), .ref a_dr])), (a_me, .inl (cI, 32, .inl me)), (a_pk, .inl (cI, 40, .inl pk)), (a_re, .inl (cI, 40, .inl re31))] H := hP
            replace hD : va_D A [(h0, .inr (7, [.int tg, .ref a_st, .ref a_ck, .ref a_en, .ref a_au, .ref a_he, .ref a_qu, .ref a_lo, .ref a_ow, .ref a_fl, .ref a_ti, .ref a_gd, .ref a_ak, .ref a_sp, .ref a_se, .ref a_sd, .ref a_rw, .ref a_sz, .ref a_op, .ref a_th, .ref a_me, .ref a_pk, .int (nI kc), .int (cm + 1), .int (s_Model_judge pk kc), .ref a_re, .int (nI kq31), .ref a_dr])), (a_me, .inl (cI, 32, .inl me)), (a_pk, .inl (cI, 40, .inl pk)), (a_re, .inl (cI, 40, .inl re31))] := hD
            have hw_31 := hw
            replace hq := hq.trans (bnd2_eq hw)
            try dsimp only at hq
            exact Cs_Model_obey_206 re31 kq31 _ _ _ (by omega) (lv_sub hl [1, 2, 3, 4] rfl) hP hD hS hq
          replace hq := hq.trans (if_neg h29)
          refine lv_aload_n hx hb d_Model_obey_172 rfl (lv_at hl 4 rfl) ?_
          refine lv_aload_n hx hb d_Model_obey_173 rfl (lv_at hl 4 rfl) ?_
          refine va_get (D := D) (ci := 7) (v := .ref a_me) (C := R_Model) (T := F_Model) (N := 28) hx hb hts hin_Model hown hK hP 0 rfl rfl 20 (by decide) (hts _ (xm ww_553)) (fun _ h9 => h9) rfl d_Model_obey_174 ?_
          refine lv_aload_n hx hb d_Model_obey_177 rfl (lv_at hl 4 rfl) ?_
          refine lv_iload hx hb d_Model_obey_178 (lv_at hl 0 rfl) ?_
          refine xcall_i (wc := [(h0, .inr (7, [.int tg, .ref a_st, .ref a_ck, .ref a_en, .ref a_au, .ref a_he, .ref a_qu, .ref a_lo, .ref a_ow, .ref a_fl, .ref a_ti, .ref a_gd, .ref a_ak, .ref a_sp, .ref a_se, .ref a_sd, .ref a_rw, .ref a_sz, .ref a_op, .ref a_th, .ref a_me, .ref a_pk, .int (nI kc), .int (cm + 1), .int (s_Model_judge pk kc), .ref a_re, .int (nI kq2), .ref a_dr])), (a_pk, .inl (cI, 40, .inl pk))]) (wr := [(a_me, .inl (cI, 32, .inl me)), (a_re, .inl (cI, 40, .inl re2))]) (ws1 := fun (u : Unit) => [(h0, .inr (7, [.int tg, .ref a_st, .ref a_ck, .ref a_en, .ref a_au, .ref a_he, .ref a_qu, .ref a_lo, .ref a_ow, .ref a_fl, .ref a_ti, .ref a_gd, .ref a_ak, .ref a_sp, .ref a_se, .ref a_sd, .ref a_rw, .ref a_sz, .ref a_op, .ref a_th, .ref a_me, .ref a_pk, .int (nI kc), .int (cm + 1), .int (s_Model_judge pk kc), .ref a_re, .int (nI kq2), .ref a_dr])), (a_me, .inl (cI, 32, .inl me)), (a_pk, .inl (cI, 40, .inl pk)), (a_re, .inl (cI, 40, .inl re2))]) (va_runV (As := [.int (nI j)]) (rest := [.ref a_me, .ref h0]) ⟨hx, hb, hml, hown, hts⟩ (c_Model_addressOf pk (nI j) h0 a_st a_ck a_en a_au a_he a_qu a_lo a_ow a_fl a_ti a_gd a_ak a_sp a_se a_sd a_rw a_sz a_op a_th a_me a_pk a_re a_dr tg kc (cm + 1) (s_Model_judge pk kc) kq2 H.size) (xcwV 1 hts ww_701 ww_698 ww_700 ws_Model_addressOf ww_8 (by decide +kernel) rfl rfl ⟨Nat.le_of_ble_eq_true rfl, Nat.le_of_ble_eq_true rfl⟩) (xPreV (ci := 7) (q0 := 0) (q := (R_Model, F_Model, 28)) (hP.sub [0, 2] rfl) (hD.sub [0, 2] (by decide) rfl) hK hN rfl rfl rfl) rfl rfl hl.1 rfl (lv_room (Nat.le_of_ble_eq_true rfl)) d_Model_obey_180 ⟨Nat.le_of_ble_eq_true rfl, Nat.le_of_ble_eq_true rfl⟩) hP hD hS hA [0, 2] [1, 3] [2, 0, 3, 1] rfl rfl (by decide) (by decide) (by decide) (fun _ => rfl) (fun r32 u32 H locs hw hP hD hS => ?_)
          subst hw
          replace hP : va_P D vwCl [(h0, .inr (7, [.int tg, .ref a_st, .ref a_ck, .ref a_en, .ref a_au, .ref a_he, .ref a_qu, .ref a_lo, .ref a_ow, .ref a_fl, .ref a_ti, .ref a_gd, .ref a_ak, .ref a_sp, .ref a_se, .ref a_sd, .ref a_rw, .ref a_sz, .ref a_op, .ref a_th, .ref a_me, .ref a_pk, .int (nI kc), .int (cm + 1), .int (s_Model_judge pk kc), .ref a_re, .int (nI kq2), .ref a_dr])), (a_me, .inl (cI, 32, .inl me)), (a_pk, .inl (cI, 40, .inl pk)), (a_re, .inl (cI, 40, .inl re2))] H := hP
          replace hD : va_D A [(h0, .inr (7, [.int tg, .ref a_st, .ref a_ck, .ref a_en, .ref a_au, .ref a_he, .ref a_qu, .ref a_lo, .ref a_ow, .ref a_fl, .ref a_ti, .ref a_gd, .ref a_ak, .ref a_sp, .ref a_se, .ref a_sd, .ref a_rw, .ref a_sz, .ref a_op, .ref a_th, .ref a_me, .ref a_pk, .int (nI kc), .int (cm + 1), .int (s_Model_judge pk kc), .ref a_re, .int (nI kq2), .ref a_dr])), (a_me, .inl (cI, 32, .inl me)), (a_pk, .inl (cI, 40, .inl pk)), (a_re, .inl (cI, 40, .inl re2))] := hD
          refine xiald (k := ((s_Model_addressOf pk (nI j)).toNatClampNeg)) hx hb hK hP 1 0 rfl rfl (xnat (ex_nn (hJ.2.2.1 j (xle_w hj h29)) (by decide))) (ex_lt (hJ.2.2.1 j (xle_w hj h29)) (by decide)) (by decide) d_Model_obey_183 ?_
          refine xcall_v (wc := [(h0, .inr (7, [.int tg, .ref a_st, .ref a_ck, .ref a_en, .ref a_au, .ref a_he, .ref a_qu, .ref a_lo, .ref a_ow, .ref a_fl, .ref a_ti, .ref a_gd, .ref a_ak, .ref a_sp, .ref a_se, .ref a_sd, .ref a_rw, .ref a_sz, .ref a_op, .ref a_th, .ref a_me, .ref a_pk, .int (nI kc), .int (cm + 1), .int (s_Model_judge pk kc), .ref a_re, .int (nI kq2), .ref a_dr])), (a_re, .inl (cI, 40, .inl re2))]) (wr := [(a_me, .inl (cI, 32, .inl me)), (a_pk, .inl (cI, 40, .inl pk))]) (ws1 := fun (u : (Nat → Int32) × Nat) => [(h0, .inr (7, [.int tg, .ref a_st, .ref a_ck, .ref a_en, .ref a_au, .ref a_he, .ref a_qu, .ref a_lo, .ref a_ow, .ref a_fl, .ref a_ti, .ref a_gd, .ref a_ak, .ref a_sp, .ref a_se, .ref a_sd, .ref a_rw, .ref a_sz, .ref a_op, .ref a_th, .ref a_me, .ref a_pk, .int (nI kc), .int (cm + 1), .int (s_Model_judge pk kc), .ref a_re, .int (nI u.2), .ref a_dr])), (a_me, .inl (cI, 32, .inl me)), (a_pk, .inl (cI, 40, .inl pk)), (a_re, .inl (cI, 40, .inl u.1))]) (va_runV (As := [.int (me ((s_Model_addressOf pk (nI j)).toNatClampNeg))]) (rest := []) ⟨hx, hb, hml, hown, hts⟩ (c_Model_say re2 kq2 (me ((s_Model_addressOf pk (nI j)).toNatClampNeg)) h0 a_st a_ck a_en a_au a_he a_qu a_lo a_ow a_fl a_ti a_gd a_ak a_sp a_se a_sd a_rw a_sz a_op a_th a_me a_pk a_re a_dr tg kc (cm + 1) (s_Model_judge pk kc) (by omega) H.size) (xcwV 1 hts ww_693 ww_690 ww_692 ws_Model_say ww_8 (by decide +kernel) rfl rfl ⟨Nat.le_of_ble_eq_true rfl, Nat.le_of_ble_eq_true rfl⟩) (xPreV (ci := 7) (q0 := 0) (q := (R_Model, F_Model, 28)) (hP.sub [0, 3] rfl) (hD.sub [0, 3] (by decide) rfl) hK hN rfl rfl rfl) rfl rfl hl.1 rfl (lv_room (Nat.le_of_ble_eq_true rfl)) d_Model_obey_184 ⟨Nat.le_of_ble_eq_true rfl, Nat.le_of_ble_eq_true rfl⟩) hP hD hS hA [0, 3] [1, 2] [2, 0, 1, 3] rfl rfl (by decide) (by decide) (by decide) (fun _ => rfl) (fun u33 H locs hw hP hD hS => ?_)
          obtain ⟨re33, kq33⟩ := u33
          obtain ⟨hw, hkq_33⟩ := hw
          replace hP : va_P D vwCl [(h0, .inr (7, [.int tg, .ref a_st, .ref a_ck, .ref a_en, .ref a_au, .ref a_he, .ref a_qu, .ref a_lo, .ref a_ow, .ref a_fl, .ref a_ti, .ref a_gd, .ref a_ak, .ref a_sp, .ref a_se, .ref a_sd, .ref a_rw, .ref a_sz, .ref a_op, .ref a_th, .ref a_me, .ref a_pk, .int (nI kc), .int (cm + 1), .int (s_Model_judge pk kc), .ref a_re, .int (nI kq33), .ref a_dr])), (a_me, .inl (cI, 32, .inl me)), (a_pk, .inl (cI, 40, .inl pk)), (a_re, .inl (cI, 40, .inl re33))] H := hP
          replace hD : va_D A [(h0, .inr (7, [.int tg, .ref a_st, .ref a_ck, .ref a_en, .ref a_au, .ref a_he, .ref a_qu, .ref a_lo, .ref a_ow, .ref a_fl, .ref a_ti, .ref a_gd, .ref a_ak, .ref a_sp, .ref a_se, .ref a_sd, .ref a_rw, .ref a_sz, .ref a_op, .ref a_th, .ref a_me, .ref a_pk, .int (nI kc), .int (cm + 1), .int (s_Model_judge pk kc), .ref a_re, .int (nI kq33), .ref a_dr])), (a_me, .inl (cI, 32, .inl me)), (a_pk, .inl (cI, 40, .inl pk)), (a_re, .inl (cI, 40, .inl re33))] := hD
          have hw_33 := hw
          replace hq := hq.trans (bnd2_eq hw)
          try dsimp only at hq
          refine lv_iinc (k := 0) (v := nI (j + 1)) hx hb d_Model_obey_187 hl rfl (nI_1 j) (by decide) rfl (fun ls hl => ?_)
          replace hl : lv_has ls 5 [(4, .int (nI (j + 1))), (3, .int an), (2, .int y4), (1, .int (s_Model_has pk 32)), (0, .ref h0)] := hl
          refine lv_goto (tgt := 166) hx hb d_Model_obey_190 rfl ?_
          exact ihlp_obey (j + 1) re33 kq33 _ _ _ (xle_w hj h29) (by omega) (by omega) (lv_sub hl [0, 1, 2, 3, 4] rfl) hP hD hS hq
      exact LPlp_obey (an.toNatClampNeg - 0) 0 re24 kq24 _ _ _ (Nat.zero_le _) (by omega) (Nat.le_refl _) (lv_sub hl [0, 1, 2, 3, 4] rfl) hP hD hS hq
    have hv : ((if (s_Model_has pk 32) = 0 then (if (s_Model_judge pk kc) = 0 then (if y4 = 0 then (pk 7) else ((pk 7) / 2)) else (0)) else (0)) : Int32) = (if (s_Model_has pk 32) = 0 then (if (s_Model_judge pk kc) = 0 then (if y4 = 0 then (pk 7) else ((pk 7) / 2)) else (0)) else (0)) := rfl
    refine lv_if_ne (tgt := 55) hx hb d_Model_obey_45 rfl (fun h34 => ?_) (fun h34 => ?_)
    · replace hv := hv.trans (if_neg h34)
      refine lv_iconst (v := 0) hx hb d_Model_obey_55 rfl ?_
      refine lv_goto (tgt := 82) hx hb d_Model_obey_56 rfl ?_
      exact J5 _ _ _ hv.symm hP hD hS
    replace hv := hv.trans (if_pos h34)
    refine lv_aload_n hx hb d_Model_obey_48 rfl (lv_at hl 2 rfl) ?_
    refine va_get (D := D) (ci := 7) (v := .int (s_Model_judge pk kc)) (C := R_Model) (T := F_Model) (N := 28) hx hb hts hin_Model hown hK hP 0 rfl rfl 24 (by decide) (hts _ (xm ww_557)) (fun _ h9 => h9) rfl d_Model_obey_49 ?_
    refine lv_if_eq (tgt := 59) hx hb d_Model_obey_52 rfl (fun h35 => ?_) (fun h35 => ?_)
    · replace hv := hv.trans (if_pos h35)
      refine lv_iload_n hx hb d_Model_obey_59 rfl (lv_at hl 0 rfl) ?_
      refine lv_if_eq (tgt := 75) hx hb d_Model_obey_60 rfl (fun h36 => ?_) (fun h36 => ?_)
      · replace hv := hv.trans (if_pos h36)
        refine lv_aload_n hx hb d_Model_obey_75 rfl (lv_at hl 2 rfl) ?_
        refine va_get (D := D) (ci := 7) (v := .ref a_pk) (C := R_Model) (T := F_Model) (N := 28) hx hb hts hin_Model hown hK hP 0 rfl rfl 21 (by decide) (hts _ (xm ww_554)) (fun _ h9 => h9) rfl d_Model_obey_76 ?_
        refine lv_bipush (v := 7) hx hb d_Model_obey_79 rfl ?_
        refine xiald (k := 7) hx hb hK hP 2 0 rfl rfl rfl (by decide) (by decide) d_Model_obey_81 ?_
        exact J5 _ _ _ hv.symm hP hD hS
      replace hv := hv.trans (if_neg h36)
      refine lv_aload_n hx hb d_Model_obey_63 rfl (lv_at hl 2 rfl) ?_
      refine va_get (D := D) (ci := 7) (v := .ref a_pk) (C := R_Model) (T := F_Model) (N := 28) hx hb hts hin_Model hown hK hP 0 rfl rfl 21 (by decide) (hts _ (xm ww_554)) (fun _ h9 => h9) rfl d_Model_obey_64 ?_
      refine lv_bipush (v := 7) hx hb d_Model_obey_67 rfl ?_
      refine xiald (k := 7) hx hb hK hP 2 0 rfl rfl rfl (by decide) (by decide) d_Model_obey_69 ?_
      refine lv_iconst (v := 2) hx hb d_Model_obey_70 rfl ?_
      refine lv_idiv hx hb d_Model_obey_71 (by decide) ?_
      refine lv_goto (tgt := 82) hx hb d_Model_obey_72 rfl ?_
      exact J5 _ _ _ hv.symm hP hD hS
    replace hv := hv.trans (if_neg h35)
    refine lv_iconst (v := 0) hx hb d_Model_obey_55 rfl ?_
    refine lv_goto (tgt := 82) hx hb d_Model_obey_56 rfl ?_
    exact J5 _ _ _ hv.symm hP hD hS
  have hv : ((if (s_Model_has pk 32) = 0 then (if (s_Model_has pk 16) = 0 then (0) else (1)) else (0)) : Int32) = (if (s_Model_has pk 32) = 0 then (if (s_Model_has pk 16) = 0 then (0) else (1)) else (0)) := rfl
  refine lv_if_ne (tgt := 42) hx hb d_Model_obey_26 rfl (fun h37 => ?_) (fun h37 => ?_)
  · replace hv := hv.trans (if_neg h37)
    refine lv_iconst (v := 0) hx hb d_Model_obey_42 rfl ?_
    exact J3 _ _ _ hv.symm (Or.inl rfl) hP hD hS
  replace hv := hv.trans (if_pos h37)
  refine lv_aload_n hx hb d_Model_obey_29 rfl (lv_at hl 1 rfl) ?_
  refine lv_bipush (v := 16) hx hb d_Model_obey_30 rfl ?_
  refine xcall_i (wc := [(h0, .inr (7, [.int tg, .ref a_st, .ref a_ck, .ref a_en, .ref a_au, .ref a_he, .ref a_qu, .ref a_lo, .ref a_ow, .ref a_fl, .ref a_ti, .ref a_gd, .ref a_ak, .ref a_sp, .ref a_se, .ref a_sd, .ref a_rw, .ref a_sz, .ref a_op, .ref a_th, .ref a_me, .ref a_pk, .int (nI kc), .int (cm + 1), .int (s_Model_judge pk kc), .ref a_re, .int (nI kq), .ref a_dr])), (a_pk, .inl (cI, 40, .inl pk))]) (wr := [(a_me, .inl (cI, 32, .inl me)), (a_re, .inl (cI, 40, .inl re))]) (ws1 := fun (u : Unit) => [(h0, .inr (7, [.int tg, .ref a_st, .ref a_ck, .ref a_en, .ref a_au, .ref a_he, .ref a_qu, .ref a_lo, .ref a_ow, .ref a_fl, .ref a_ti, .ref a_gd, .ref a_ak, .ref a_sp, .ref a_se, .ref a_sd, .ref a_rw, .ref a_sz, .ref a_op, .ref a_th, .ref a_me, .ref a_pk, .int (nI kc), .int (cm + 1), .int (s_Model_judge pk kc), .ref a_re, .int (nI kq), .ref a_dr])), (a_me, .inl (cI, 32, .inl me)), (a_pk, .inl (cI, 40, .inl pk)), (a_re, .inl (cI, 40, .inl re))]) (va_runV (As := [.int 16]) (rest := []) ⟨hx, hb, hml, hown, hts⟩ (c_Model_has pk 16 h0 a_st a_ck a_en a_au a_he a_qu a_lo a_ow a_fl a_ti a_gd a_ak a_sp a_se a_sd a_rw a_sz a_op a_th a_me a_pk a_re a_dr tg kc (cm + 1) (s_Model_judge pk kc) kq H.size) (xcwV 1 hts ww_685 ww_682 ww_684 ws_Model_has ww_8 (by decide +kernel) rfl rfl ⟨Nat.le_of_ble_eq_true rfl, Nat.le_of_ble_eq_true rfl⟩) (xPreV (ci := 7) (q0 := 0) (q := (R_Model, F_Model, 28)) (hP.sub [0, 2] rfl) (hD.sub [0, 2] (by decide) rfl) hK hN rfl rfl rfl) rfl rfl hl.1 rfl (lv_room (Nat.le_of_ble_eq_true rfl)) d_Model_obey_32 ⟨Nat.le_of_ble_eq_true rfl, Nat.le_of_ble_eq_true rfl⟩) hP hD hS hA [0, 2] [1, 3] [2, 0, 3, 1] rfl rfl (by decide) (by decide) (by decide) (fun _ => rfl) (fun r38 u38 H locs hw hP hD hS => ?_)
  obtain ⟨hw, hbr_38⟩ := hw
  subst hw
  replace hP : va_P D vwCl [(h0, .inr (7, [.int tg, .ref a_st, .ref a_ck, .ref a_en, .ref a_au, .ref a_he, .ref a_qu, .ref a_lo, .ref a_ow, .ref a_fl, .ref a_ti, .ref a_gd, .ref a_ak, .ref a_sp, .ref a_se, .ref a_sd, .ref a_rw, .ref a_sz, .ref a_op, .ref a_th, .ref a_me, .ref a_pk, .int (nI kc), .int (cm + 1), .int (s_Model_judge pk kc), .ref a_re, .int (nI kq), .ref a_dr])), (a_me, .inl (cI, 32, .inl me)), (a_pk, .inl (cI, 40, .inl pk)), (a_re, .inl (cI, 40, .inl re))] H := hP
  replace hD : va_D A [(h0, .inr (7, [.int tg, .ref a_st, .ref a_ck, .ref a_en, .ref a_au, .ref a_he, .ref a_qu, .ref a_lo, .ref a_ow, .ref a_fl, .ref a_ti, .ref a_gd, .ref a_ak, .ref a_sp, .ref a_se, .ref a_sd, .ref a_rw, .ref a_sz, .ref a_op, .ref a_th, .ref a_me, .ref a_pk, .int (nI kc), .int (cm + 1), .int (s_Model_judge pk kc), .ref a_re, .int (nI kq), .ref a_dr])), (a_me, .inl (cI, 32, .inl me)), (a_pk, .inl (cI, 40, .inl pk)), (a_re, .inl (cI, 40, .inl re))] := hD
  refine lv_if_eq (tgt := 42) hx hb d_Model_obey_35 rfl (fun h39 => ?_) (fun h39 => ?_)
  · replace hv := hv.trans (if_pos h39)
    refine lv_iconst (v := 0) hx hb d_Model_obey_42 rfl ?_
    exact J3 _ _ _ hv.symm (Or.inl rfl) hP hD hS
  replace hv := hv.trans (if_neg h39)
  refine lv_iconst (v := 1) hx hb d_Model_obey_38 rfl ?_
  refine lv_goto (tgt := 43) hx hb d_Model_obey_39 rfl ?_
  exact J3 _ _ _ hv.symm (Or.inr rfl) hP hD hS
